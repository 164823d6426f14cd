theorem ok_X0_real : yX0_real.cls = RX0 ∧ yX0_real.cls ≠ "java/lang/invoke/MethodHandle" ∧ yX0_real.cls ≠ "java/lang/invoke/VarHandle" ∧ (parseMethodDescriptor yX0_real.desc).map (fun d => d.parameters.length) = some 1 := by decide +kernel
def kvX0_real (d : Nat → Int64) (lw : Nat → Int64) (uw : Nat → Int64) (an : Nat → Int64) (fn : Nat) (qn : Nat) (q : Int32) : UInt64 := if (kvX0_isQuestion qn q) = 0 then (13830554455654793216 : UInt64) else (if (Op.cmpValue (FP.dcmp (FP.l2d (kvX0_allBut d fn (-1 : Int32))) FP.dconst0) CmpOp.l) ≤ 0 then (13830554455654793216 : UInt64) else (FP.ddiv (FP.l2d (kvX0_sumOfBoth lw uw an qn q q)) (FP.l2d (kvX0_allBut d fn (-1 : Int32)))))
set_option maxHeartbeats 4000000 in
set_option maxRecDepth 100000 in
theorem kX0_real (l : Launch) (D : va_G) (cJ : ClassId) (h a1 a2 a3 a4 a5 : Nat) (u d lw uw an : Nat → Int64) (fn qn : Nat) (sd : Int64) (q : Int32) (hfn : fn ≤ 12) (hnan : ¬ kvX0_isQuestion qn q = 0 → vf_n64 (FP.ddiv (FP.l2d (kvX0_sumOfBoth lw uw an qn q q)) (FP.l2d (kvX0_allBut d fn (-1 : Int32))))) : RoD l yX0_real wsX0_real ({ frames := 3, cells := 0, slots := 0, locals := 74 } : Room) [.ref h, .int q] D (xW cJ h a1 a2 a3 a4 a5 u d lw uw an (nI fn) (nI qn) sd) [(cJ, .long)] (kvX0_real d lw uw an fn qn q) := by
  refine oo_head (C := RX0) (cc := cX0_real) (maxL := 6) (ret := (some .double)) (by decide) rfl rfl (Nat.le_of_ble_eq_true rfl) ?_
  intro p e s m below meth c hx hb hr hlocks hml hown hnm hts hpre ls hl
  have hl : lv_has ls 6 [(0, .ref h), (1, .int q)] := hl
  obtain ⟨hP, hK⟩ := hpre
  have hS : va_S oo_N s.heap s.heap [] := va_S.rf
  refine lv_aload_n hx hb dX0_real_0 rfl (lv_at hl 0 rfl) ?_
  refine lv_iload_n hx hb dX0_real_1 rfl (lv_at hl 1 rfl) ?_
  refine ro_calli (va_runV (As := [.int q]) (rest := []) ⟨hx, hb, hml, hown, hts⟩ (kX0_isQuestion l D cJ h a1 a2 a3 a4 a5 u d lw uw an fn qn sd q) (cwV 1 hts gX0_real_X0_isQuestion rfl rfl rfl ok_X0_isQuestion ⟨Nat.le_of_ble_eq_true rfl, Nat.le_of_ble_eq_true rfl⟩) ⟨oo_blind, va_recv hK hP (ci := 0) (q0 := 0) rfl rfl, oo_ps hP hK [0, 1, 2, 3, 4, 5] rfl [0] rfl⟩ rfl rfl hl.1 rfl (lv_room (Nat.le_of_ble_eq_true rfl)) dX0_real_2 ⟨Nat.le_of_ble_eq_true rfl, Nat.le_of_ble_eq_true rfl⟩) hP hS (fun H locs hP hS => ?_)
  refine lv_if_ne (tgt := 12) hx hb dX0_real_5 (by decide) (fun c_5 => ?_) (fun c_5 => ?_)
  · refine lv_aload_n hx hb dX0_real_12 rfl (lv_at hl 0 rfl) ?_
    refine lv_iload_n hx hb dX0_real_13 rfl (lv_at hl 1 rfl) ?_
    refine lv_iload_n hx hb dX0_real_14 rfl (lv_at hl 1 rfl) ?_
    refine ro_calll (va_runV (As := [.int q, .int q]) (rest := []) ⟨hx, hb, hml, hown, hts⟩ (kX0_sumOfBoth l D cJ h a1 a2 a3 a4 a5 u d lw uw an fn qn sd q q) (cwV 2 hts gX0_real_X0_sumOfBoth rfl rfl rfl ok_X0_sumOfBoth ⟨Nat.le_of_ble_eq_true rfl, Nat.le_of_ble_eq_true rfl⟩) ⟨oo_blind, va_recv hK hP (ci := 0) (q0 := 0) rfl rfl, oo_ps hP hK [0, 1, 2, 3, 4, 5] rfl [0] rfl⟩ rfl rfl hl.1 rfl (lv_room (Nat.le_of_ble_eq_true rfl)) dX0_real_15 ⟨Nat.le_of_ble_eq_true rfl, Nat.le_of_ble_eq_true rfl⟩) hP hS (fun H locs hP hS => ?_)
    refine lv_l2d hx hb dX0_real_18 ?_
    refine lv_dstore_n (lv' := [(2, .double (FP.l2d (kvX0_sumOfBoth lw uw an qn q q))), (0, .ref h), (1, .int q)]) hx hb dX0_real_19 rfl hl (by decide) rfl (fun ls hl => ?_)
    refine lv_aload_n hx hb dX0_real_20 rfl (lv_at hl 1 rfl) ?_
    refine lv_iconst (v := (-1 : Int32)) hx hb dX0_real_21 (by decide) ?_
    refine ro_calll (va_runV (As := [.int (-1 : Int32)]) (rest := []) ⟨hx, hb, hml, hown, hts⟩ (kX0_allBut l D cJ h a1 a2 a3 a4 a5 u d lw uw an fn qn sd (-1 : Int32) hfn) (cwV 1 hts gX0_real_X0_allBut rfl rfl rfl ok_X0_allBut ⟨Nat.le_of_ble_eq_true rfl, Nat.le_of_ble_eq_true rfl⟩) ⟨oo_blind, va_recv hK hP (ci := 0) (q0 := 0) rfl rfl, oo_ps hP hK [0, 1, 2, 3, 4, 5] rfl [0] rfl⟩ rfl rfl hl.1 rfl (lv_room (Nat.le_of_ble_eq_true rfl)) dX0_real_22 ⟨Nat.le_of_ble_eq_true rfl, Nat.le_of_ble_eq_true rfl⟩) hP hS (fun H locs hP hS => ?_)
    refine lv_l2d hx hb dX0_real_25 ?_
    refine lv_dstore (lv' := [(4, .double (FP.l2d (kvX0_allBut d fn (-1 : Int32)))), (2, .double (FP.l2d (kvX0_sumOfBoth lw uw an qn q q))), (0, .ref h), (1, .int q)]) hx hb dX0_real_26 hl (by decide) rfl (fun ls hl => ?_)
    refine lv_dload hx hb dX0_real_28 (lv_at hl 0 rfl) ?_
    refine lv_dconst0 hx hb dX0_real_30 ?_
    refine lv_dcmp hx hb dX0_real_31 ?_
    refine lv_if_le (tgt := 42) hx hb dX0_real_32 (by decide) (fun c_32 => ?_) (fun c_32 => ?_)
    · refine lv_ldc2d hx hb hown (hts (.constantDouble RX0 111 13830554455654793216) (by decide +kernel)) dX0_real_42 ?_
      exact ro_retd hx hb hr hlocks hS (by unfold kvX0_real; rw [if_neg c_5, if_pos c_32]) dX0_real_45
    · refine lv_dload_n hx hb dX0_real_35 rfl (lv_at hl 1 rfl) ?_
      refine lv_dload hx hb dX0_real_36 (lv_at hl 0 rfl) ?_
      refine lv_ddiv hx hb dX0_real_38 (hnan c_5) ?_
      refine lv_goto (tgt := 45) hx hb dX0_real_39 (by decide) ?_
      exact ro_retd hx hb hr hlocks hS (by unfold kvX0_real; rw [if_neg c_5, if_neg c_32]) dX0_real_45
  · refine lv_ldc2d hx hb hown (hts (.constantDouble RX0 111 13830554455654793216) (by decide +kernel)) dX0_real_8 ?_
    exact ro_retd hx hb hr hlocks hS (by unfold kvX0_real; rw [if_pos c_5]) dX0_real_11
theorem ok_X0_changesWith : yX0_changesWith.cls = RX0 ∧ yX0_changesWith.cls ≠ "java/lang/invoke/MethodHandle" ∧ yX0_changesWith.cls ≠ "java/lang/invoke/VarHandle" ∧ (parseMethodDescriptor yX0_changesWith.desc).map (fun d => d.parameters.length) = some 3 := by decide +kernel
def kvX0_changesWith (an : Nat → Int64) (qn : Nat) (wf : Nat → Int64) (q : Int32) (k : Int32) (f : Int32) : Int32 := if (nI 6) ≤ f then (if (lg_cmp (kvX0_blockOf an qn q k) (kvX0_blockOf an qn q (k ^^^ ((1 : Int32) <<< ((f - (nI 6)) &&& 31))))) = 0 then (0 : Int32) else (1 : Int32)) else (if (lg_cmp (((kvX0_blockOf an qn q k) ^^^ (((kvX0_blockOf an qn q k).toUInt64 >>> (((1 : Int32) <<< (f &&& 31)).toInt64.toUInt64 &&& Int64.toUInt64 63)).toInt64)) &&& (kvX0_at 6 wf f)) (0 : Int64)) = 0 then (0 : Int32) else (1 : Int32))
set_option maxHeartbeats 4000000 in
set_option maxRecDepth 100000 in
theorem kX0_changesWith (l : Launch) (D : va_G) (cJ : ClassId) (h a1 a2 a3 a4 a5 : Nat) (u d lw uw an : Nat → Int64) (fn qn : Nat) (sd : Int64) (t : Nat) (wf : Nat → Int64) (q : Int32) (k : Int32) (f : Int32) : RzI l yX0_changesWith wsX0_changesWith ({ frames := 2, cells := 0, slots := 0, locals := 43 } : Room) [.ref h, .int q, .int k, .int f] D (xW cJ h a1 a2 a3 a4 a5 u d lw uw an (nI fn) (nI qn) sd) [(cJ, .long)] t wf (kvX0_changesWith an qn wf q k f) := by
  refine oo_head (C := RX0) (cc := cX0_changesWith) (maxL := 8) (ret := (some .boolean)) (by decide) rfl rfl (Nat.le_of_ble_eq_true rfl) ?_
  intro p e s m below meth c hx hb hr hlocks hml hown hnm hts hpre ls hl
  have hl : lv_has ls 8 [(0, .ref h), (1, .int q), (2, .int k), (3, .int f)] := hl
  obtain ⟨⟨hP, hK⟩, hZ, hT⟩ := hpre
  have hS : va_S oo_N s.heap s.heap [] := va_S.rf
  refine lv_aload_n hx hb dX0_changesWith_0 rfl (lv_at hl 0 rfl) ?_
  refine lv_iload_n hx hb dX0_changesWith_1 rfl (lv_at hl 1 rfl) ?_
  refine lv_iload_n hx hb dX0_changesWith_2 rfl (lv_at hl 2 rfl) ?_
  refine ro_calll (va_runV (As := [.int q, .int k]) (rest := []) ⟨hx, hb, hml, hown, hts⟩ (kX0_blockOf l D cJ h a1 a2 a3 a4 a5 u d lw uw an fn qn sd q k) (cwV 2 hts gX0_changesWith_X0_blockOf rfl rfl rfl ok_X0_blockOf ⟨Nat.le_of_ble_eq_true rfl, Nat.le_of_ble_eq_true rfl⟩) ⟨oo_blind, va_recv hK hP (ci := 0) (q0 := 0) rfl rfl, oo_ps hP hK [0, 1, 2, 3, 4, 5] rfl [0] rfl⟩ rfl rfl hl.1 rfl (lv_room (Nat.le_of_ble_eq_true rfl)) dX0_changesWith_3 ⟨Nat.le_of_ble_eq_true rfl, Nat.le_of_ble_eq_true rfl⟩) hP hS (fun H locs hP hS => ?_)
  refine lv_lstore (lv' := [(4, .long (kvX0_blockOf an qn q k)), (0, .ref h), (1, .int q), (2, .int k), (3, .int f)]) hx hb dX0_changesWith_6 hl (by decide) rfl (fun ls hl => ?_)
  refine lv_iload_n hx hb dX0_changesWith_8 rfl (lv_at hl 4 rfl) ?_
  refine lv_bipush (v := nI 6) hx hb dX0_changesWith_9 (by decide) ?_
  refine lv_icmp_ge (tgt := 46) hx hb dX0_changesWith_11 (by decide) (fun c_11 => ?_) (fun c_11 => ?_)
  · refine lv_lload hx hb dX0_changesWith_46 (lv_at hl 0 rfl) ?_
    refine lv_aload_n hx hb dX0_changesWith_48 rfl (lv_at hl 1 rfl) ?_
    refine lv_iload_n hx hb dX0_changesWith_49 rfl (lv_at hl 2 rfl) ?_
    refine lv_iload_n hx hb dX0_changesWith_50 rfl (lv_at hl 3 rfl) ?_
    refine lv_iconst (v := (1 : Int32)) hx hb dX0_changesWith_51 (by decide) ?_
    refine lv_iload_n hx hb dX0_changesWith_52 rfl (lv_at hl 4 rfl) ?_
    refine lv_bipush (v := nI 6) hx hb dX0_changesWith_53 (by decide) ?_
    refine lv_isub hx hb dX0_changesWith_55 ?_
    refine lv_ishl hx hb dX0_changesWith_56 ?_
    refine lv_ixor hx hb dX0_changesWith_57 ?_
    refine ro_calll (va_runV (As := [.int q, .int (k ^^^ ((1 : Int32) <<< ((f - (nI 6)) &&& 31)))]) (rest := [.long (kvX0_blockOf an qn q k)]) ⟨hx, hb, hml, hown, hts⟩ (kX0_blockOf l D cJ h a1 a2 a3 a4 a5 u d lw uw an fn qn sd q (k ^^^ ((1 : Int32) <<< ((f - (nI 6)) &&& 31)))) (cwV 2 hts gX0_changesWith_X0_blockOf rfl rfl rfl ok_X0_blockOf ⟨Nat.le_of_ble_eq_true rfl, Nat.le_of_ble_eq_true rfl⟩) ⟨oo_blind, va_recv hK hP (ci := 0) (q0 := 0) rfl rfl, oo_ps hP hK [0, 1, 2, 3, 4, 5] rfl [0] rfl⟩ rfl rfl hl.1 rfl (lv_room (Nat.le_of_ble_eq_true rfl)) dX0_changesWith_58 ⟨Nat.le_of_ble_eq_true rfl, Nat.le_of_ble_eq_true rfl⟩) hP hS (fun H locs hP hS => ?_)
    refine W.lcmp hx hb dX0_changesWith_61 ?_
    refine lv_if_eq (tgt := 69) hx hb dX0_changesWith_62 (by decide) (fun c_62 => ?_) (fun c_62 => ?_)
    · refine lv_iconst (v := (0 : Int32)) hx hb dX0_changesWith_69 (by decide) ?_
      exact ro_retz hx hb hr hlocks hS rfl (by unfold kvX0_changesWith; rw [if_pos c_11, if_pos c_62]) dX0_changesWith_70
    · refine lv_iconst (v := (1 : Int32)) hx hb dX0_changesWith_65 (by decide) ?_
      refine lv_goto (tgt := 70) hx hb dX0_changesWith_66 (by decide) ?_
      exact ro_retz hx hb hr hlocks hS rfl (by unfold kvX0_changesWith; rw [if_pos c_11, if_neg c_62]) dX0_changesWith_70
  · refine lv_lload hx hb dX0_changesWith_14 (lv_at hl 0 rfl) ?_
    refine lv_iconst (v := (1 : Int32)) hx hb dX0_changesWith_16 (by decide) ?_
    refine lv_iload_n hx hb dX0_changesWith_17 rfl (lv_at hl 4 rfl) ?_
    refine lv_ishl hx hb dX0_changesWith_18 ?_
    refine lv_lushr hx hb dX0_changesWith_19 rfl ?_
    refine lv_lstore (lv' := [(6, .long (((kvX0_blockOf an qn q k).toUInt64 >>> (((1 : Int32) <<< (f &&& 31)).toInt64.toUInt64 &&& Int64.toUInt64 63)).toInt64)), (4, .long (kvX0_blockOf an qn q k)), (0, .ref h), (1, .int q), (2, .int k), (3, .int f)]) hx hb dX0_changesWith_20 hl (by decide) rfl (fun ls hl => ?_)
    refine lv_lload hx hb dX0_changesWith_22 (lv_at hl 1 rfl) ?_
    refine lv_lload hx hb dX0_changesWith_24 (lv_at hl 0 rfl) ?_
    refine lv_lxor hx hb dX0_changesWith_26 ?_
    refine va_gets hx hb hZ hS hown (hts (.fieldLink RX0 162 "OddsSampling" "WITHOUT_FACT" "[J") (by decide +kernel)) (fun _ h9 => h9) dX0_changesWith_27 ?_
    refine lv_iload_n hx hb dX0_changesWith_30 rfl (lv_at hl 5 rfl) ?_
    refine ro_calll (va_runS (As := [.ref t, .int f]) (rest := [.long ((kvX0_blockOf an qn q k) ^^^ (((kvX0_blockOf an qn q k).toUInt64 >>> (((1 : Int32) <<< (f &&& 31)).toInt64.toUInt64 &&& Int64.toUInt64 63)).toInt64))]) ⟨hx, hb, hml, hown, hts⟩ (kX0_atT l D t wf f) (va_cwS 2 hts gX0_changesWith_X0_at rfl rfl rfl ok_X0_at ⟨Nat.le_of_ble_eq_true rfl, Nat.le_of_ble_eq_true rfl⟩) ⟨oo_blindT, oo_psT hT hS⟩ rfl rfl hl.1 rfl (lv_room (Nat.le_of_ble_eq_true rfl)) dX0_changesWith_31 ⟨Nat.le_of_ble_eq_true rfl, Nat.le_of_ble_eq_true rfl⟩) hP hS (fun H locs hP hS => ?_)
    refine lv_land hx hb dX0_changesWith_34 ?_
    refine lv_lconst (v := (0 : Int64)) hx hb dX0_changesWith_35 (by decide) ?_
    refine W.lcmp hx hb dX0_changesWith_36 ?_
    refine lv_if_eq (tgt := 44) hx hb dX0_changesWith_37 (by decide) (fun c_37 => ?_) (fun c_37 => ?_)
    · refine lv_iconst (v := (0 : Int32)) hx hb dX0_changesWith_44 (by decide) ?_
      exact ro_retz hx hb hr hlocks hS rfl (by unfold kvX0_changesWith; rw [if_neg c_11, if_pos c_37]) dX0_changesWith_45
    · refine lv_iconst (v := (1 : Int32)) hx hb dX0_changesWith_40 (by decide) ?_
      refine lv_goto (tgt := 45) hx hb dX0_changesWith_41 (by decide) ?_
      exact ro_retz hx hb hr hlocks hS rfl (by unfold kvX0_changesWith; rw [if_neg c_11, if_neg c_37]) dX0_changesWith_45
def kvX0_hangsOn (an : Nat → Int64) (qn : Nat) (wf : Nat → Int64) (q f : Int32) : Int32 := if (∀ k : Nat, k < 64 → kvX0_changesWith an qn wf q (nI k) f = 0) then 0 else 1
theorem ok_X0_hangsOn : yX0_hangsOn.cls = RX0 ∧ yX0_hangsOn.cls ≠ "java/lang/invoke/MethodHandle" ∧ yX0_hangsOn.cls ≠ "java/lang/invoke/VarHandle" ∧ (parseMethodDescriptor yX0_hangsOn.desc).map (fun d => d.parameters.length) = some 2 := by decide +kernel
set_option maxHeartbeats 4000000 in
set_option maxRecDepth 100000 in
theorem kX0_hangsOn (l : Launch) (D : va_G) (cJ : ClassId) (h a1 a2 a3 a4 a5 : Nat) (u d lw uw an : Nat → Int64) (fn qn : Nat) (sd : Int64) (t : Nat) (wf : Nat → Int64) (q : Int32) (f : Int32) : RzI l yX0_hangsOn wsX0_hangsOn ({ frames := 3, cells := 0, slots := 0, locals := 70 } : Room) [.ref h, .int q, .int f] D (xW cJ h a1 a2 a3 a4 a5 u d lw uw an (nI fn) (nI qn) sd) [(cJ, .long)] t wf (kvX0_hangsOn an qn wf q f) := by
  refine oo_head (C := RX0) (cc := cX0_hangsOn) (maxL := 4) (ret := (some .boolean)) (by decide) rfl rfl (Nat.le_of_ble_eq_true rfl) ?_
  intro p e s m below meth c hx hb hr hlocks hml hown hnm hts hpre ls hl
  have hl : lv_has ls 4 [(0, .ref h), (1, .int q), (2, .int f)] := hl
  obtain ⟨⟨hP, hK⟩, hZ, hT⟩ := hpre
  have hS : va_S oo_N s.heap s.heap [] := va_S.rf
  refine lv_iconst (v := nI 0) hx hb dX0_hangsOn_0 (by decide) ?_
  refine lv_istore_n (lv' := [(3, .int (nI 0)), (0, .ref h), (1, .int q), (2, .int f)]) hx hb dX0_hangsOn_1 rfl hl (by decide) rfl (fun ls hl => ?_)
  have hl : lv_has ls 4 [(0, .ref h), (1, .int q), (2, .int f), (3, .int (nI 0))] := lv_sub hl [1, 2, 3, 0] rfl
  refine oo_loop (N := 64) (fun n H locs ls => va_P D vwCl (xW cJ h a1 a2 a3 a4 a5 u d lw uw an (nI fn) (nI qn) sd) H ∧ va_S (oo_N) s.heap H locs ∧ lv_has ls 4 [(0, .ref h), (1, .int q), (2, .int f), (3, .int (nI n))] ∧ ∀ k : Nat, k < n → kvX0_changesWith an qn wf q (nI k) f = 0) ?_ ?_ 0 (Nat.zero_le _) ⟨hP, hS, hl, lt_0⟩
  · intro H locs ls hI
    obtain ⟨hP, hS, hl, hE⟩ := hI
    refine lv_iload_n hx hb dX0_hangsOn_2 rfl (lv_at hl 3 rfl) ?_
    refine lv_bipush (v := nI 64) hx hb dX0_hangsOn_3 (by decide) ?_
    refine lv_icmp_ge (tgt := 26) hx hb dX0_hangsOn_5 (by decide) (fun c_5 => ?_) (fun c_5 => ?_)
    · refine lv_iconst (v := (0 : Int32)) hx hb dX0_hangsOn_26 (by decide) ?_
      exact ro_retz hx hb hr hlocks hS rfl (by unfold kvX0_hangsOn; rw [if_pos hE]) dX0_hangsOn_27
    · exact absurd (nI_le (Nat.le_refl _) (by omega)) c_5
  · intro n hltn ihn H locs ls hI
    obtain ⟨hP, hS, hl, hE⟩ := hI
    refine lv_iload_n hx hb dX0_hangsOn_2 rfl (lv_at hl 3 rfl) ?_
    refine lv_bipush (v := nI 64) hx hb dX0_hangsOn_3 (by decide) ?_
    refine lv_icmp_ge (tgt := 26) hx hb dX0_hangsOn_5 (by decide) (fun c_5 => ?_) (fun c_5 => ?_)
    · exact absurd c_5 (nI_ge hltn (by omega))
    · refine lv_aload_n hx hb dX0_hangsOn_8 rfl (lv_at hl 0 rfl) ?_
      refine lv_iload_n hx hb dX0_hangsOn_9 rfl (lv_at hl 1 rfl) ?_
      refine lv_iload_n hx hb dX0_hangsOn_10 rfl (lv_at hl 3 rfl) ?_
      refine lv_iload_n hx hb dX0_hangsOn_11 rfl (lv_at hl 2 rfl) ?_
      refine ro_calli (va_runV (As := [.int q, .int (nI n), .int f]) (rest := []) ⟨hx, hb, hml, hown, hts⟩ (kX0_changesWith l D cJ h a1 a2 a3 a4 a5 u d lw uw an fn qn sd t wf q (nI n) f) (cwV 3 hts gX0_hangsOn_X0_changesWith rfl rfl rfl ok_X0_changesWith ⟨Nat.le_of_ble_eq_true rfl, Nat.le_of_ble_eq_true rfl⟩) ⟨oo_blindZ, va_recv hK hP (ci := 0) (q0 := 0) rfl rfl, oo_psZ hP hK hZ hT hS [0, 1, 2, 3, 4, 5] rfl [0] rfl⟩ rfl rfl hl.1 rfl (lv_room (Nat.le_of_ble_eq_true rfl)) dX0_hangsOn_12 ⟨Nat.le_of_ble_eq_true rfl, Nat.le_of_ble_eq_true rfl⟩) hP hS (fun H locs hP hS => ?_)
      refine lv_if_eq (tgt := 20) hx hb dX0_hangsOn_15 (by decide) (fun c_15 => ?_) (fun c_15 => ?_)
      · refine lv_iinc (v := nI (n + 1)) (lv' := [(3, .int (nI (n + 1))), (0, .ref h), (1, .int q), (2, .int f)]) hx hb dX0_hangsOn_20 hl (k := 3) rfl (oo_inc n 1) (by decide) rfl (fun ls hl => ?_)
        refine lv_goto (tgt := 2) hx hb dX0_hangsOn_23 (by decide) ?_
        have hl : lv_has ls 4 [(0, .ref h), (1, .int q), (2, .int f), (3, .int (nI (n + 1)))] := lv_sub hl [1, 2, 3, 0] rfl
        exact ihn _ _ _ ⟨hP, hS, hl, lt_s hE c_15⟩
      · refine lv_iconst (v := (1 : Int32)) hx hb dX0_hangsOn_18 (by decide) ?_
        exact ro_retz hx hb hr hlocks hS rfl (by unfold kvX0_hangsOn; rw [if_neg (fun h => c_15 (h n hltn))]) dX0_hangsOn_19
def kl_hg (an : Nat → Int64) (qn : Nat) (wf : Nat → Int64) (q : Int32) : Nat → Int32
  | 0 => 0
  | n + 1 => if kvX0_hangsOn an qn wf q (nI n) = 0 then kl_hg an qn wf q n else kl_hg an qn wf q n ||| ((1 : Int32) <<< (nI n &&& 31))
theorem ok_X0_hangs : yX0_hangs.cls = RX0 ∧ yX0_hangs.cls ≠ "java/lang/invoke/MethodHandle" ∧ yX0_hangs.cls ≠ "java/lang/invoke/VarHandle" ∧ (parseMethodDescriptor yX0_hangs.desc).map (fun d => d.parameters.length) = some 1 := by decide +kernel
def kvX0_hangs (an : Nat → Int64) (fn : Nat) (qn : Nat) (wf : Nat → Int64) (q : Int32) : Int32 := if (kvX0_isQuestion qn q) = 0 then (-1 : Int32) else (kl_hg an qn wf q fn)
set_option maxHeartbeats 4000000 in
set_option maxRecDepth 100000 in
theorem kX0_hangs (l : Launch) (D : va_G) (cJ : ClassId) (h a1 a2 a3 a4 a5 : Nat) (u d lw uw an : Nat → Int64) (fn qn : Nat) (sd : Int64) (t : Nat) (wf : Nat → Int64) (q : Int32) (hfn : fn ≤ 12) : RzI l yX0_hangs wsX0_hangs ({ frames := 4, cells := 0, slots := 0, locals := 93 } : Room) [.ref h, .int q] D (xW cJ h a1 a2 a3 a4 a5 u d lw uw an (nI fn) (nI qn) sd) [(cJ, .long)] t wf (kvX0_hangs an fn qn wf q) := by
  refine oo_head (C := RX0) (cc := cX0_hangs) (maxL := 4) (ret := (some .int)) (by decide) rfl rfl (Nat.le_of_ble_eq_true rfl) ?_
  intro p e s m below meth c hx hb hr hlocks hml hown hnm hts hpre ls hl
  have hl : lv_has ls 4 [(0, .ref h), (1, .int q)] := hl
  obtain ⟨⟨hP, hK⟩, hZ, hT⟩ := hpre
  have hS : va_S oo_N s.heap s.heap [] := va_S.rf
  have hin : ∀ w ∈ wsX00, w ∈ wsX0_hangs := fun w h => List.mem_cons_of_mem _ (List.mem_append_right _ h)
  refine lv_aload_n hx hb dX0_hangs_0 rfl (lv_at hl 0 rfl) ?_
  refine lv_iload_n hx hb dX0_hangs_1 rfl (lv_at hl 1 rfl) ?_
  refine ro_calli (va_runV (As := [.int q]) (rest := []) ⟨hx, hb, hml, hown, hts⟩ (kX0_isQuestion l D cJ h a1 a2 a3 a4 a5 u d lw uw an fn qn sd q) (cwV 1 hts gX0_hangs_X0_isQuestion rfl rfl rfl ok_X0_isQuestion ⟨Nat.le_of_ble_eq_true rfl, Nat.le_of_ble_eq_true rfl⟩) ⟨oo_blind, va_recv hK hP (ci := 0) (q0 := 0) rfl rfl, oo_ps hP hK [0, 1, 2, 3, 4, 5] rfl [0] rfl⟩ rfl rfl hl.1 rfl (lv_room (Nat.le_of_ble_eq_true rfl)) dX0_hangs_2 ⟨Nat.le_of_ble_eq_true rfl, Nat.le_of_ble_eq_true rfl⟩) hP hS (fun H locs hP hS => ?_)
  refine lv_if_ne (tgt := 10) hx hb dX0_hangs_5 (by decide) (fun c_5 => ?_) (fun c_5 => ?_)
  · refine lv_iconst (v := (0 : Int32)) hx hb dX0_hangs_10 (by decide) ?_
    refine lv_istore_n (lv' := [(2, .int (0 : Int32)), (0, .ref h), (1, .int q)]) hx hb dX0_hangs_11 rfl hl (by decide) rfl (fun ls hl => ?_)
    refine lv_iconst (v := nI 0) hx hb dX0_hangs_12 (by decide) ?_
    refine lv_istore_n (lv' := [(3, .int (nI 0)), (2, .int (0 : Int32)), (0, .ref h), (1, .int q)]) hx hb dX0_hangs_13 rfl hl (by decide) rfl (fun ls hl => ?_)
    have hl : lv_has ls 4 [(0, .ref h), (1, .int q), (2, .int (0 : Int32)), (3, .int (nI 0))] := lv_sub hl [2, 3, 1, 0] rfl
    have hl := Eq.mp (congrArg (fun z9 => lv_has ls 4 [(0, .ref h), (1, .int q), (2, .int z9), (3, .int (nI 0))]) (show (0 : Int32) = kl_hg an qn wf q 0 from (by first | (simp only [kl_hg]; done) | (simp only [kl_hg]; rw [if_neg c_5])))) hl
    refine oo_loop (N := fn) (fun n H locs ls => va_P D vwCl (xW cJ h a1 a2 a3 a4 a5 u d lw uw an (nI fn) (nI qn) sd) H ∧ va_S (oo_N) s.heap H locs ∧ lv_has ls 4 [(0, .ref h), (1, .int q), (2, .int (kl_hg an qn wf q n)), (3, .int (nI n))]) ?_ ?_ 0 (Nat.zero_le _) ⟨hP, hS, hl⟩
    · intro H locs ls hI
      obtain ⟨hP, hS, hl⟩ := hI
      refine lv_iload_n hx hb dX0_hangs_14 rfl (lv_at hl 3 rfl) ?_
      refine lv_aload_n hx hb dX0_hangs_15 rfl (lv_at hl 0 rfl) ?_
      refine va_get (D := D) (ci := 0) (v := .int (nI fn)) (C := RX0) (T := TX0) (N := 8) hx hb hts hin hown hK hP 0 rfl rfl 5 (by decide) (hts (.fieldLink RX0 25 "OddsSampling" "factCount" "I") (by decide +kernel)) (fun _ h9 => h9) rfl dX0_hangs_16 ?_
      refine lv_icmp_ge (tgt := 43) hx hb dX0_hangs_19 (by decide) (fun c_19 => ?_) (fun c_19 => ?_)
      · refine lv_iload_n hx hb dX0_hangs_43 rfl (lv_at hl 2 rfl) ?_
        exact ro_reti hx hb hr hlocks hS (by unfold kvX0_hangs; rw [if_neg c_5]) dX0_hangs_44
      · exact absurd (nI_le (Nat.le_refl _) (by omega)) c_19
    · intro n hltn ihn H locs ls hI
      obtain ⟨hP, hS, hl⟩ := hI
      refine lv_iload_n hx hb dX0_hangs_14 rfl (lv_at hl 3 rfl) ?_
      refine lv_aload_n hx hb dX0_hangs_15 rfl (lv_at hl 0 rfl) ?_
      refine va_get (D := D) (ci := 0) (v := .int (nI fn)) (C := RX0) (T := TX0) (N := 8) hx hb hts hin hown hK hP 0 rfl rfl 5 (by decide) (hts (.fieldLink RX0 25 "OddsSampling" "factCount" "I") (by decide +kernel)) (fun _ h9 => h9) rfl dX0_hangs_16 ?_
      refine lv_icmp_ge (tgt := 43) hx hb dX0_hangs_19 (by decide) (fun c_19 => ?_) (fun c_19 => ?_)
      · exact absurd c_19 (nI_ge hltn (by omega))
      · refine lv_aload_n hx hb dX0_hangs_22 rfl (lv_at hl 0 rfl) ?_
        refine lv_iload_n hx hb dX0_hangs_23 rfl (lv_at hl 1 rfl) ?_
        refine lv_iload_n hx hb dX0_hangs_24 rfl (lv_at hl 3 rfl) ?_
        refine ro_calli (va_runV (As := [.int q, .int (nI n)]) (rest := []) ⟨hx, hb, hml, hown, hts⟩ (kX0_hangsOn l D cJ h a1 a2 a3 a4 a5 u d lw uw an fn qn sd t wf q (nI n)) (cwV 2 hts gX0_hangs_X0_hangsOn rfl rfl rfl ok_X0_hangsOn ⟨Nat.le_of_ble_eq_true rfl, Nat.le_of_ble_eq_true rfl⟩) ⟨oo_blindZ, va_recv hK hP (ci := 0) (q0 := 0) rfl rfl, oo_psZ hP hK hZ hT hS [0, 1, 2, 3, 4, 5] rfl [0] rfl⟩ rfl rfl hl.1 rfl (lv_room (Nat.le_of_ble_eq_true rfl)) dX0_hangs_25 ⟨Nat.le_of_ble_eq_true rfl, Nat.le_of_ble_eq_true rfl⟩) hP hS (fun H locs hP hS => ?_)
        refine lv_if_eq (tgt := 37) hx hb dX0_hangs_28 (by decide) (fun c_28 => ?_) (fun c_28 => ?_)
        · refine lv_iinc (v := nI (n + 1)) (lv' := [(3, .int (nI (n + 1))), (0, .ref h), (1, .int q), (2, .int (kl_hg an qn wf q n))]) hx hb dX0_hangs_37 hl (k := 3) rfl (oo_inc n 1) (by decide) rfl (fun ls hl => ?_)
          refine lv_goto (tgt := 14) hx hb dX0_hangs_40 (by decide) ?_
          have hl : lv_has ls 4 [(0, .ref h), (1, .int q), (2, .int (kl_hg an qn wf q n)), (3, .int (nI (n + 1)))] := lv_sub hl [1, 2, 3, 0] rfl
          have hl := Eq.mp (congrArg (fun z9 => lv_has ls 4 [(0, .ref h), (1, .int q), (2, .int z9), (3, .int (nI (n + 1)))]) (show kl_hg an qn wf q n = kl_hg an qn wf q (n + 1) from (by first | (simp only [kl_hg]; done) | (simp only [kl_hg]; rw [if_pos c_28])))) hl
          exact ihn _ _ _ ⟨hP, hS, hl⟩
        · refine lv_iload_n hx hb dX0_hangs_31 rfl (lv_at hl 2 rfl) ?_
          refine lv_iconst (v := (1 : Int32)) hx hb dX0_hangs_32 (by decide) ?_
          refine lv_iload_n hx hb dX0_hangs_33 rfl (lv_at hl 3 rfl) ?_
          refine lv_ishl hx hb dX0_hangs_34 ?_
          refine lv_ior hx hb dX0_hangs_35 ?_
          refine lv_istore_n (lv' := [(2, .int ((kl_hg an qn wf q n) ||| ((1 : Int32) <<< ((nI n) &&& 31)))), (0, .ref h), (1, .int q), (3, .int (nI n))]) hx hb dX0_hangs_36 rfl hl (by decide) rfl (fun ls hl => ?_)
          refine lv_iinc (v := nI (n + 1)) (lv' := [(3, .int (nI (n + 1))), (2, .int ((kl_hg an qn wf q n) ||| ((1 : Int32) <<< ((nI n) &&& 31)))), (0, .ref h), (1, .int q)]) hx hb dX0_hangs_37 hl (k := 3) rfl (oo_inc n 1) (by decide) rfl (fun ls hl => ?_)
          refine lv_goto (tgt := 14) hx hb dX0_hangs_40 (by decide) ?_
          have hl : lv_has ls 4 [(0, .ref h), (1, .int q), (2, .int ((kl_hg an qn wf q n) ||| ((1 : Int32) <<< ((nI n) &&& 31)))), (3, .int (nI (n + 1)))] := lv_sub hl [2, 3, 1, 0] rfl
          have hl := Eq.mp (congrArg (fun z9 => lv_has ls 4 [(0, .ref h), (1, .int q), (2, .int z9), (3, .int (nI (n + 1)))]) (show (kl_hg an qn wf q n) ||| ((1 : Int32) <<< ((nI n) &&& 31)) = kl_hg an qn wf q (n + 1) from (by first | (simp only [kl_hg]; done) | (simp only [kl_hg]; rw [if_neg c_28])))) hl
          exact ihn _ _ _ ⟨hP, hS, hl⟩
  · refine lv_iconst (v := (-1 : Int32)) hx hb dX0_hangs_8 (by decide) ?_
    exact ro_reti hx hb hr hlocks hS (by unfold kvX0_hangs; rw [if_pos c_5]) dX0_hangs_9
theorem oo_upd3 (f : Nat → Int32) (k : Nat) (x y : Int32) : upd (upd (upd f k x) k y) k (f k) = f := by
  funext j
  unfold upd
  by_cases h : j = k
  · rw [if_pos h, h]
  · rw [if_neg h, if_neg h, if_neg h]
theorem oo_upd2 (f : Nat → Int32) (k : Nat) (x : Int32) : upd (upd f k x) k (f k) = f := by
  funext j
  unfold upd
  by_cases h : j = k
  · rw [if_pos h, h]
  · rw [if_neg h, if_neg h]
theorem ok_X1_influence : yX1_influence.cls = RX1 ∧ yX1_influence.cls ≠ "java/lang/invoke/MethodHandle" ∧ yX1_influence.cls ≠ "java/lang/invoke/VarHandle" ∧ (parseMethodDescriptor yX1_influence.desc).map (fun d => d.parameters.length) = some 3 := by decide +kernel
def kvX1_influence (u : Nat → Int32) (d : Nat → Int32) (tr : Nat → Int32) (fn : Nat) (qn : Nat) (q : Int32) (k : Int32) (pt : Int32) : Int64 := if (kvX1_isQuestion qn q) = 0 then (0 : Int64) else (if k < 0 then (0 : Int64) else (if (nI fn) ≤ k then (0 : Int64) else (if pt < 0 then (0 : Int64) else (if pt ≤ (1 : Int32) then (kvX1_part ((kvX1_sum (upd u k.toNatClampNeg (1 : Int32)) (upd d k.toNatClampNeg (1 : Int32)) tr fn q.toNatClampNeg) - (kvX1_sum (upd (upd u k.toNatClampNeg (1 : Int32)) k.toNatClampNeg (0 : Int32)) (upd d k.toNatClampNeg (1 : Int32)) tr fn q.toNatClampNeg)) (kvX1_all (upd d k.toNatClampNeg (1 : Int32)) fn) pt) else (0 : Int64)))))
set_option maxHeartbeats 4000000 in
set_option maxRecDepth 100000 in
theorem kX1_influence (l : Launch) (D : va_G) (cI : ClassId) (cZ : ClassId) (h b1 b2 b3 : Nat) (u d tr : Nat → Int32) (fn qn : Nat) (sd : Int64) (th : Int32) (q : Int32) (k : Int32) (pt : Int32) (hfn : fn ≤ 12) (hqn : qn ≤ 40) (h01 : oo_01 tr) (hN : ¬ kvX1_isQuestion qn q = 0 → ¬ k < 0 → ¬ nI fn ≤ k → (kl_gcd (kl_abs (kvX1_sum (upd u k.toNatClampNeg (1 : Int32)) (upd d k.toNatClampNeg (1 : Int32)) tr fn q.toNatClampNeg - kvX1_sum (upd (upd u k.toNatClampNeg (1 : Int32)) k.toNatClampNeg (0 : Int32)) (upd d k.toNatClampNeg (1 : Int32)) tr fn q.toNatClampNeg)) (kvX1_all (upd d k.toNatClampNeg (1 : Int32)) fn) 100).2 = 0) (hz : ¬ kvX1_isQuestion qn q = 0 → ¬ k < 0 → ¬ nI fn ≤ k → ¬ (kl_gcd (kl_abs (kvX1_sum (upd u k.toNatClampNeg (1 : Int32)) (upd d k.toNatClampNeg (1 : Int32)) tr fn q.toNatClampNeg - kvX1_sum (upd (upd u k.toNatClampNeg (1 : Int32)) k.toNatClampNeg (0 : Int32)) (upd d k.toNatClampNeg (1 : Int32)) tr fn q.toNatClampNeg)) (kvX1_all (upd d k.toNatClampNeg (1 : Int32)) fn) 100).1 = 0) : MuL l yX1_influence wsX1_influence ({ frames := 2, cells := 0, slots := 0, locals := 56 } : Room) [.ref h, .int q, .int k, .int pt] D (mW cI cZ h b1 b2 b3 u d tr (nI fn) (nI qn) sd th) [(cI, .int), (cZ, .boolean)] (mW cI cZ h b1 b2 b3 u d tr (nI fn) (nI qn) sd (0 : Int32)) (kvX1_influence u d tr fn qn q k pt) := by
  intro sz
  refine oo_head (C := RX1) (cc := cX1_influence) (maxL := 12) (ret := (some .long)) (by decide) rfl rfl (Nat.le_of_ble_eq_true rfl) ?_
  intro p e s m below meth c hx hb hr hlocks hml hown hnm hts hpre ls hl
  have hl : lv_has ls 12 [(0, .ref h), (1, .int q), (2, .int k), (3, .int pt)] := hl
  obtain ⟨rfl, hP, hK, hD0⟩ := hpre
  have hD := hD0.self (sz := s.heap.size)
  have hA := oo_A (mW cI cZ h b1 b2 b3 u d tr (nI fn) (nI qn) sd th) s
  have hS : va_S (va_A (mW cI cZ h b1 b2 b3 u d tr (nI fn) (nI qn) sd th) s.heap.size) s.heap s.heap [] := va_S.rf
  have hin : ∀ w ∈ wsX10, w ∈ wsX1_influence := fun w h => List.mem_cons_of_mem _ (List.mem_append_right _ h)
  refine lv_aload_n hx hb dX1_influence_0 rfl (lv_at hl 0 rfl) ?_
  refine lv_iconst (v := (0 : Int32)) hx hb dX1_influence_1 (by decide) ?_
  refine va_put (D := D) (ci := 1) (v := .int (0 : Int32)) (ty := .int) (C := RX1) (T := TX1) (N := 7) hx hb hts hin tyX1 tyX1_ok nmX1 hown hK hP hD hS 0 rfl rfl 6 (by decide) (hts (.fieldLink RX1 21 "OddsSamplingModel" "thrown" "I") (by decide +kernel)) (fun _ h9 => h9) rfl (by decide +kernel) rfl rfl (Nat.le_of_ble_eq_true rfl) dX1_influence_2 (fun H locs hP hD hS => ?_)
  have hP : va_P D vwCl (mW cI cZ h b1 b2 b3 u d tr (nI fn) (nI qn) sd (0 : Int32)) H := hP
  have hD : va_D _ (mW cI cZ h b1 b2 b3 u d tr (nI fn) (nI qn) sd (0 : Int32)) := hD
  refine lv_aload_n hx hb dX1_influence_5 rfl (lv_at hl 0 rfl) ?_
  refine lv_iload_n hx hb dX1_influence_6 rfl (lv_at hl 1 rfl) ?_
  refine ro_calli (va_runV (As := [.int q]) (rest := []) ⟨hx, hb, hml, hown, hts⟩ (kX1_isQuestion l D cI cZ h b1 b2 b3 u d tr fn qn sd (0 : Int32) q) (cwV 1 hts gX1_influence_X1_isQuestion rfl rfl rfl ok_X1_isQuestion ⟨Nat.le_of_ble_eq_true rfl, Nat.le_of_ble_eq_true rfl⟩) ⟨oo_blind, va_recv hK hP (ci := 1) (q0 := 0) rfl rfl, oo_ps hP hK [0, 1, 2, 3] rfl [0, 1] rfl⟩ rfl rfl hl.1 rfl (lv_room (Nat.le_of_ble_eq_true rfl)) dX1_influence_7 ⟨Nat.le_of_ble_eq_true rfl, Nat.le_of_ble_eq_true rfl⟩) hP hS (fun H locs hP hS => ?_)
  refine lv_if_eq (tgt := 34) hx hb dX1_influence_10 (by decide) (fun c_10 => ?_) (fun c_10 => ?_)
  · refine lv_lconst (v := (0 : Int64)) hx hb dX1_influence_34 (by decide) ?_
    exact mu_retl hx hb hr hlocks hP hD hS (by unfold kvX1_influence; rw [if_pos c_10]) dX1_influence_35
  · refine lv_iload_n hx hb dX1_influence_13 rfl (lv_at hl 2 rfl) ?_
    refine lv_if_lt (tgt := 34) hx hb dX1_influence_14 (by decide) (fun c_14 => ?_) (fun c_14 => ?_)
    · refine lv_lconst (v := (0 : Int64)) hx hb dX1_influence_34 (by decide) ?_
      exact mu_retl hx hb hr hlocks hP hD hS (by unfold kvX1_influence; rw [if_neg c_10, if_pos c_14]) dX1_influence_35
    · refine lv_iload_n hx hb dX1_influence_17 rfl (lv_at hl 2 rfl) ?_
      refine lv_aload_n hx hb dX1_influence_18 rfl (lv_at hl 0 rfl) ?_
      refine va_get (D := D) (ci := 1) (v := .int (nI fn)) (C := RX1) (T := TX1) (N := 7) hx hb hts hin hown hK hP 0 rfl rfl 2 (by decide) (hts (.fieldLink RX1 28 "OddsSamplingModel" "facts" "I") (by decide +kernel)) (fun _ h9 => h9) rfl dX1_influence_19 ?_
      refine lv_icmp_ge (tgt := 34) hx hb dX1_influence_22 (by decide) (fun c_22 => ?_) (fun c_22 => ?_)
      · refine lv_lconst (v := (0 : Int64)) hx hb dX1_influence_34 (by decide) ?_
        exact mu_retl hx hb hr hlocks hP hD hS (by unfold kvX1_influence; rw [if_neg c_10, if_neg c_14, if_pos c_22]) dX1_influence_35
      · refine lv_iload_n hx hb dX1_influence_25 rfl (lv_at hl 3 rfl) ?_
        refine lv_if_lt (tgt := 34) hx hb dX1_influence_26 (by decide) (fun c_26 => ?_) (fun c_26 => ?_)
        · refine lv_lconst (v := (0 : Int64)) hx hb dX1_influence_34 (by decide) ?_
          exact mu_retl hx hb hr hlocks hP hD hS (by unfold kvX1_influence; rw [if_neg c_10, if_neg c_14, if_neg c_22, if_pos c_26]) dX1_influence_35
        · refine lv_iload_n hx hb dX1_influence_29 rfl (lv_at hl 3 rfl) ?_
          refine lv_iconst (v := (1 : Int32)) hx hb dX1_influence_30 (by decide) ?_
          refine lv_icmp_le (tgt := 36) hx hb dX1_influence_31 (by decide) (fun c_31 => ?_) (fun c_31 => ?_)
          · obtain ⟨hq1, hq2⟩ := oo_isQ hqn c_10
            obtain ⟨hk1, hk2⟩ := oo_lt hfn c_14 c_22
            refine lv_aload_n hx hb dX1_influence_36 rfl (lv_at hl 0 rfl) ?_
            refine va_get (D := D) (ci := 1) (v := .ref b1) (C := RX1) (T := TX1) (N := 7) hx hb hts hin hown hK hP 0 rfl rfl 0 (by decide) (hts (.fieldLink RX1 7 "OddsSamplingModel" "ups" "[I") (by decide +kernel)) (fun _ h9 => h9) rfl dX1_influence_37 ?_
            refine lv_iload_n hx hb dX1_influence_40 rfl (lv_at hl 2 rfl) ?_
            refine oo_topI (y := nI k.toNatClampNeg) hk1 ?_
            refine va_iald hx hb hK hP 1 0 rfl rfl (vp_in_nI (by omega) (by omega)) dX1_influence_41 ?_
            refine oo_topI (y := u k.toNatClampNeg) (congrArg u (nI_clamp (by omega))) ?_
            refine lv_istore (lv' := [(4, .int (u k.toNatClampNeg)), (0, .ref h), (1, .int q), (2, .int k), (3, .int pt)]) hx hb dX1_influence_42 hl (by decide) rfl (fun ls hl => ?_)
            refine lv_aload_n hx hb dX1_influence_44 rfl (lv_at hl 1 rfl) ?_
            refine va_get (D := D) (ci := 1) (v := .ref b2) (C := RX1) (T := TX1) (N := 7) hx hb hts hin hown hK hP 0 rfl rfl 1 (by decide) (hts (.fieldLink RX1 13 "OddsSamplingModel" "downs" "[I") (by decide +kernel)) (fun _ h9 => h9) rfl dX1_influence_45 ?_
            refine lv_iload_n hx hb dX1_influence_48 rfl (lv_at hl 3 rfl) ?_
            refine oo_topI (y := nI k.toNatClampNeg) hk1 ?_
            refine va_iald hx hb hK hP 2 0 rfl rfl (vp_in_nI (by omega) (by omega)) dX1_influence_49 ?_
            refine oo_topI (y := d k.toNatClampNeg) (congrArg d (nI_clamp (by omega))) ?_
            refine lv_istore (lv' := [(5, .int (d k.toNatClampNeg)), (4, .int (u k.toNatClampNeg)), (0, .ref h), (1, .int q), (2, .int k), (3, .int pt)]) hx hb dX1_influence_50 hl (by decide) rfl (fun ls hl => ?_)
            refine lv_aload_n hx hb dX1_influence_52 rfl (lv_at hl 2 rfl) ?_
            refine va_get (D := D) (ci := 1) (v := .ref b1) (C := RX1) (T := TX1) (N := 7) hx hb hts hin hown hK hP 0 rfl rfl 0 (by decide) (hts (.fieldLink RX1 7 "OddsSamplingModel" "ups" "[I") (by decide +kernel)) (fun _ h9 => h9) rfl dX1_influence_53 ?_
            refine lv_iload_n hx hb dX1_influence_56 rfl (lv_at hl 4 rfl) ?_
            refine oo_topI (y := nI k.toNatClampNeg) hk1 ?_
            refine lv_iconst (v := (1 : Int32)) hx hb dX1_influence_57 (by decide) ?_
            refine va_iast hx hb hK hP hD hS 1 0 rfl rfl (vp_in_nI (by omega) (by omega)) dX1_influence_58 (fun H locs hP hD hS => ?_)
            have hP : va_P D vwCl (mW cI cZ h b1 b2 b3 (upd u (nI k.toNatClampNeg).toNatClampNeg (1 : Int32)) d tr (nI fn) (nI qn) sd (0 : Int32)) H := hP
            have hD : va_D _ (mW cI cZ h b1 b2 b3 (upd u (nI k.toNatClampNeg).toNatClampNeg (1 : Int32)) d tr (nI fn) (nI qn) sd (0 : Int32)) := hD
            have hP := Eq.mp (congrArg (fun z9 => va_P D vwCl (mW cI cZ h b1 b2 b3 z9 d tr (nI fn) (nI qn) sd (0 : Int32)) H) (show upd u (nI k.toNatClampNeg).toNatClampNeg (1 : Int32) = upd u k.toNatClampNeg (1 : Int32) from (by rw [nI_clamp (by omega)]))) hP
            have hP : va_P D vwCl (mW cI cZ h b1 b2 b3 (upd u k.toNatClampNeg (1 : Int32)) d tr (nI fn) (nI qn) sd (0 : Int32)) H := hP
            have hD : va_D _ (mW cI cZ h b1 b2 b3 (upd u k.toNatClampNeg (1 : Int32)) d tr (nI fn) (nI qn) sd (0 : Int32)) := oo_Dre hD (oo_fc (oo_fc (oo_fc (oo_fc rfl))))
            refine lv_aload_n hx hb dX1_influence_59 rfl (lv_at hl 2 rfl) ?_
            refine va_get (D := D) (ci := 1) (v := .ref b2) (C := RX1) (T := TX1) (N := 7) hx hb hts hin hown hK hP 0 rfl rfl 1 (by decide) (hts (.fieldLink RX1 13 "OddsSamplingModel" "downs" "[I") (by decide +kernel)) (fun _ h9 => h9) rfl dX1_influence_60 ?_
            refine lv_iload_n hx hb dX1_influence_63 rfl (lv_at hl 4 rfl) ?_
            refine oo_topI (y := nI k.toNatClampNeg) hk1 ?_
            refine lv_iconst (v := (1 : Int32)) hx hb dX1_influence_64 (by decide) ?_
            refine va_iast hx hb hK hP hD hS 2 0 rfl rfl (vp_in_nI (by omega) (by omega)) dX1_influence_65 (fun H locs hP hD hS => ?_)
            have hP : va_P D vwCl (mW cI cZ h b1 b2 b3 (upd u k.toNatClampNeg (1 : Int32)) (upd d (nI k.toNatClampNeg).toNatClampNeg (1 : Int32)) tr (nI fn) (nI qn) sd (0 : Int32)) H := hP
            have hD : va_D _ (mW cI cZ h b1 b2 b3 (upd u k.toNatClampNeg (1 : Int32)) (upd d (nI k.toNatClampNeg).toNatClampNeg (1 : Int32)) tr (nI fn) (nI qn) sd (0 : Int32)) := hD
            have hP := Eq.mp (congrArg (fun z9 => va_P D vwCl (mW cI cZ h b1 b2 b3 (upd u k.toNatClampNeg (1 : Int32)) z9 tr (nI fn) (nI qn) sd (0 : Int32)) H) (show upd d (nI k.toNatClampNeg).toNatClampNeg (1 : Int32) = upd d k.toNatClampNeg (1 : Int32) from (by rw [nI_clamp (by omega)]))) hP
            have hP : va_P D vwCl (mW cI cZ h b1 b2 b3 (upd u k.toNatClampNeg (1 : Int32)) (upd d k.toNatClampNeg (1 : Int32)) tr (nI fn) (nI qn) sd (0 : Int32)) H := hP
            have hD : va_D _ (mW cI cZ h b1 b2 b3 (upd u k.toNatClampNeg (1 : Int32)) (upd d k.toNatClampNeg (1 : Int32)) tr (nI fn) (nI qn) sd (0 : Int32)) := oo_Dre hD (oo_fc (oo_fc (oo_fc (oo_fc rfl))))
            refine lv_aload_n hx hb dX1_influence_66 rfl (lv_at hl 2 rfl) ?_
            refine lv_iload_n hx hb dX1_influence_67 rfl (lv_at hl 3 rfl) ?_
            refine oo_topI (y := nI q.toNatClampNeg) hq1 ?_
            refine ro_calll (va_runV (As := [.int (nI q.toNatClampNeg)]) (rest := []) ⟨hx, hb, hml, hown, hts⟩ (kX1_sum l D cI cZ h b1 b2 b3 (upd u k.toNatClampNeg (1 : Int32)) (upd d k.toNatClampNeg (1 : Int32)) tr fn qn sd (0 : Int32) q.toNatClampNeg hfn (by omega) h01) (cwV 1 hts gX1_influence_X1_sum rfl rfl rfl ok_X1_sum ⟨Nat.le_of_ble_eq_true rfl, Nat.le_of_ble_eq_true rfl⟩) ⟨oo_blind, va_recv hK hP (ci := 1) (q0 := 0) rfl rfl, oo_ps hP hK [0, 1, 2, 3] rfl [0, 1] rfl⟩ rfl rfl hl.1 rfl (lv_room (Nat.le_of_ble_eq_true rfl)) dX1_influence_68 ⟨Nat.le_of_ble_eq_true rfl, Nat.le_of_ble_eq_true rfl⟩) hP hS (fun H locs hP hS => ?_)
            refine lv_lstore (lv' := [(6, .long (kvX1_sum (upd u k.toNatClampNeg (1 : Int32)) (upd d k.toNatClampNeg (1 : Int32)) tr fn q.toNatClampNeg)), (5, .int (d k.toNatClampNeg)), (4, .int (u k.toNatClampNeg)), (0, .ref h), (1, .int q), (2, .int k), (3, .int pt)]) hx hb dX1_influence_71 hl (by decide) rfl (fun ls hl => ?_)
            refine lv_aload_n hx hb dX1_influence_73 rfl (lv_at hl 3 rfl) ?_
            refine ro_calll (va_runV (As := []) (rest := []) ⟨hx, hb, hml, hown, hts⟩ (kX1_all l D cI cZ h b1 b2 b3 (upd u k.toNatClampNeg (1 : Int32)) (upd d k.toNatClampNeg (1 : Int32)) tr fn qn sd (0 : Int32) hfn) (cwV 0 hts gX1_influence_X1_all rfl rfl rfl ok_X1_all ⟨Nat.le_of_ble_eq_true rfl, Nat.le_of_ble_eq_true rfl⟩) ⟨oo_blind, va_recv hK hP (ci := 1) (q0 := 0) rfl rfl, oo_ps hP hK [0, 1, 2, 3] rfl [0, 1] rfl⟩ rfl rfl hl.1 rfl (lv_room (Nat.le_of_ble_eq_true rfl)) dX1_influence_74 ⟨Nat.le_of_ble_eq_true rfl, Nat.le_of_ble_eq_true rfl⟩) hP hS (fun H locs hP hS => ?_)
            refine lv_lstore (lv' := [(8, .long (kvX1_all (upd d k.toNatClampNeg (1 : Int32)) fn)), (6, .long (kvX1_sum (upd u k.toNatClampNeg (1 : Int32)) (upd d k.toNatClampNeg (1 : Int32)) tr fn q.toNatClampNeg)), (5, .int (d k.toNatClampNeg)), (4, .int (u k.toNatClampNeg)), (0, .ref h), (1, .int q), (2, .int k), (3, .int pt)]) hx hb dX1_influence_77 hl (by decide) rfl (fun ls hl => ?_)
            refine lv_aload_n hx hb dX1_influence_79 rfl (lv_at hl 4 rfl) ?_
            refine va_get (D := D) (ci := 1) (v := .ref b1) (C := RX1) (T := TX1) (N := 7) hx hb hts hin hown hK hP 0 rfl rfl 0 (by decide) (hts (.fieldLink RX1 7 "OddsSamplingModel" "ups" "[I") (by decide +kernel)) (fun _ h9 => h9) rfl dX1_influence_80 ?_
            refine lv_iload_n hx hb dX1_influence_83 rfl (lv_at hl 6 rfl) ?_
            refine oo_topI (y := nI k.toNatClampNeg) hk1 ?_
            refine lv_iconst (v := (0 : Int32)) hx hb dX1_influence_84 (by decide) ?_
            refine va_iast hx hb hK hP hD hS 1 0 rfl rfl (vp_in_nI (by omega) (by omega)) dX1_influence_85 (fun H locs hP hD hS => ?_)
            have hP : va_P D vwCl (mW cI cZ h b1 b2 b3 (upd (upd u k.toNatClampNeg (1 : Int32)) (nI k.toNatClampNeg).toNatClampNeg (0 : Int32)) (upd d k.toNatClampNeg (1 : Int32)) tr (nI fn) (nI qn) sd (0 : Int32)) H := hP
            have hD : va_D _ (mW cI cZ h b1 b2 b3 (upd (upd u k.toNatClampNeg (1 : Int32)) (nI k.toNatClampNeg).toNatClampNeg (0 : Int32)) (upd d k.toNatClampNeg (1 : Int32)) tr (nI fn) (nI qn) sd (0 : Int32)) := hD
            have hP := Eq.mp (congrArg (fun z9 => va_P D vwCl (mW cI cZ h b1 b2 b3 z9 (upd d k.toNatClampNeg (1 : Int32)) tr (nI fn) (nI qn) sd (0 : Int32)) H) (show upd (upd u k.toNatClampNeg (1 : Int32)) (nI k.toNatClampNeg).toNatClampNeg (0 : Int32) = upd (upd u k.toNatClampNeg (1 : Int32)) k.toNatClampNeg (0 : Int32) from (by rw [nI_clamp (by omega)]))) hP
            have hP : va_P D vwCl (mW cI cZ h b1 b2 b3 (upd (upd u k.toNatClampNeg (1 : Int32)) k.toNatClampNeg (0 : Int32)) (upd d k.toNatClampNeg (1 : Int32)) tr (nI fn) (nI qn) sd (0 : Int32)) H := hP
            have hD : va_D _ (mW cI cZ h b1 b2 b3 (upd (upd u k.toNatClampNeg (1 : Int32)) k.toNatClampNeg (0 : Int32)) (upd d k.toNatClampNeg (1 : Int32)) tr (nI fn) (nI qn) sd (0 : Int32)) := oo_Dre hD (oo_fc (oo_fc (oo_fc (oo_fc rfl))))
            refine lv_aload_n hx hb dX1_influence_86 rfl (lv_at hl 4 rfl) ?_
            refine lv_iload_n hx hb dX1_influence_87 rfl (lv_at hl 5 rfl) ?_
            refine oo_topI (y := nI q.toNatClampNeg) hq1 ?_
            refine ro_calll (va_runV (As := [.int (nI q.toNatClampNeg)]) (rest := []) ⟨hx, hb, hml, hown, hts⟩ (kX1_sum l D cI cZ h b1 b2 b3 (upd (upd u k.toNatClampNeg (1 : Int32)) k.toNatClampNeg (0 : Int32)) (upd d k.toNatClampNeg (1 : Int32)) tr fn qn sd (0 : Int32) q.toNatClampNeg hfn (by omega) h01) (cwV 1 hts gX1_influence_X1_sum rfl rfl rfl ok_X1_sum ⟨Nat.le_of_ble_eq_true rfl, Nat.le_of_ble_eq_true rfl⟩) ⟨oo_blind, va_recv hK hP (ci := 1) (q0 := 0) rfl rfl, oo_ps hP hK [0, 1, 2, 3] rfl [0, 1] rfl⟩ rfl rfl hl.1 rfl (lv_room (Nat.le_of_ble_eq_true rfl)) dX1_influence_88 ⟨Nat.le_of_ble_eq_true rfl, Nat.le_of_ble_eq_true rfl⟩) hP hS (fun H locs hP hS => ?_)
            refine lv_lstore (lv' := [(10, .long (kvX1_sum (upd (upd u k.toNatClampNeg (1 : Int32)) k.toNatClampNeg (0 : Int32)) (upd d k.toNatClampNeg (1 : Int32)) tr fn q.toNatClampNeg)), (8, .long (kvX1_all (upd d k.toNatClampNeg (1 : Int32)) fn)), (6, .long (kvX1_sum (upd u k.toNatClampNeg (1 : Int32)) (upd d k.toNatClampNeg (1 : Int32)) tr fn q.toNatClampNeg)), (5, .int (d k.toNatClampNeg)), (4, .int (u k.toNatClampNeg)), (0, .ref h), (1, .int q), (2, .int k), (3, .int pt)]) hx hb dX1_influence_91 hl (by decide) rfl (fun ls hl => ?_)
            refine lv_aload_n hx hb dX1_influence_93 rfl (lv_at hl 5 rfl) ?_
            refine va_get (D := D) (ci := 1) (v := .ref b1) (C := RX1) (T := TX1) (N := 7) hx hb hts hin hown hK hP 0 rfl rfl 0 (by decide) (hts (.fieldLink RX1 7 "OddsSamplingModel" "ups" "[I") (by decide +kernel)) (fun _ h9 => h9) rfl dX1_influence_94 ?_
            refine lv_iload_n hx hb dX1_influence_97 rfl (lv_at hl 7 rfl) ?_
            refine oo_topI (y := nI k.toNatClampNeg) hk1 ?_
            refine lv_iload hx hb dX1_influence_98 (lv_at hl 4 rfl) ?_
            refine va_iast hx hb hK hP hD hS 1 0 rfl rfl (vp_in_nI (by omega) (by omega)) dX1_influence_100 (fun H locs hP hD hS => ?_)
            have hP : va_P D vwCl (mW cI cZ h b1 b2 b3 (upd (upd (upd u k.toNatClampNeg (1 : Int32)) k.toNatClampNeg (0 : Int32)) (nI k.toNatClampNeg).toNatClampNeg (u k.toNatClampNeg)) (upd d k.toNatClampNeg (1 : Int32)) tr (nI fn) (nI qn) sd (0 : Int32)) H := hP
            have hD : va_D _ (mW cI cZ h b1 b2 b3 (upd (upd (upd u k.toNatClampNeg (1 : Int32)) k.toNatClampNeg (0 : Int32)) (nI k.toNatClampNeg).toNatClampNeg (u k.toNatClampNeg)) (upd d k.toNatClampNeg (1 : Int32)) tr (nI fn) (nI qn) sd (0 : Int32)) := hD
            have hP := Eq.mp (congrArg (fun z9 => va_P D vwCl (mW cI cZ h b1 b2 b3 z9 (upd d k.toNatClampNeg (1 : Int32)) tr (nI fn) (nI qn) sd (0 : Int32)) H) (show upd (upd (upd u k.toNatClampNeg (1 : Int32)) k.toNatClampNeg (0 : Int32)) (nI k.toNatClampNeg).toNatClampNeg (u k.toNatClampNeg) = upd (upd (upd u k.toNatClampNeg (1 : Int32)) k.toNatClampNeg (0 : Int32)) k.toNatClampNeg (u k.toNatClampNeg) from (by rw [nI_clamp (by omega)]))) hP
            have hP : va_P D vwCl (mW cI cZ h b1 b2 b3 (upd (upd (upd u k.toNatClampNeg (1 : Int32)) k.toNatClampNeg (0 : Int32)) k.toNatClampNeg (u k.toNatClampNeg)) (upd d k.toNatClampNeg (1 : Int32)) tr (nI fn) (nI qn) sd (0 : Int32)) H := hP
            have hD : va_D _ (mW cI cZ h b1 b2 b3 (upd (upd (upd u k.toNatClampNeg (1 : Int32)) k.toNatClampNeg (0 : Int32)) k.toNatClampNeg (u k.toNatClampNeg)) (upd d k.toNatClampNeg (1 : Int32)) tr (nI fn) (nI qn) sd (0 : Int32)) := oo_Dre hD (oo_fc (oo_fc (oo_fc (oo_fc rfl))))
            refine lv_aload_n hx hb dX1_influence_101 rfl (lv_at hl 5 rfl) ?_
            refine va_get (D := D) (ci := 1) (v := .ref b2) (C := RX1) (T := TX1) (N := 7) hx hb hts hin hown hK hP 0 rfl rfl 1 (by decide) (hts (.fieldLink RX1 13 "OddsSamplingModel" "downs" "[I") (by decide +kernel)) (fun _ h9 => h9) rfl dX1_influence_102 ?_
            refine lv_iload_n hx hb dX1_influence_105 rfl (lv_at hl 7 rfl) ?_
            refine oo_topI (y := nI k.toNatClampNeg) hk1 ?_
            refine lv_iload hx hb dX1_influence_106 (lv_at hl 3 rfl) ?_
            refine va_iast hx hb hK hP hD hS 2 0 rfl rfl (vp_in_nI (by omega) (by omega)) dX1_influence_108 (fun H locs hP hD hS => ?_)
            have hP : va_P D vwCl (mW cI cZ h b1 b2 b3 (upd (upd (upd u k.toNatClampNeg (1 : Int32)) k.toNatClampNeg (0 : Int32)) k.toNatClampNeg (u k.toNatClampNeg)) (upd (upd d k.toNatClampNeg (1 : Int32)) (nI k.toNatClampNeg).toNatClampNeg (d k.toNatClampNeg)) tr (nI fn) (nI qn) sd (0 : Int32)) H := hP
            have hD : va_D _ (mW cI cZ h b1 b2 b3 (upd (upd (upd u k.toNatClampNeg (1 : Int32)) k.toNatClampNeg (0 : Int32)) k.toNatClampNeg (u k.toNatClampNeg)) (upd (upd d k.toNatClampNeg (1 : Int32)) (nI k.toNatClampNeg).toNatClampNeg (d k.toNatClampNeg)) tr (nI fn) (nI qn) sd (0 : Int32)) := hD
            have hP := Eq.mp (congrArg (fun z9 => va_P D vwCl (mW cI cZ h b1 b2 b3 (upd (upd (upd u k.toNatClampNeg (1 : Int32)) k.toNatClampNeg (0 : Int32)) k.toNatClampNeg (u k.toNatClampNeg)) z9 tr (nI fn) (nI qn) sd (0 : Int32)) H) (show upd (upd d k.toNatClampNeg (1 : Int32)) (nI k.toNatClampNeg).toNatClampNeg (d k.toNatClampNeg) = upd (upd d k.toNatClampNeg (1 : Int32)) k.toNatClampNeg (d k.toNatClampNeg) from (by rw [nI_clamp (by omega)]))) hP
            have hP : va_P D vwCl (mW cI cZ h b1 b2 b3 (upd (upd (upd u k.toNatClampNeg (1 : Int32)) k.toNatClampNeg (0 : Int32)) k.toNatClampNeg (u k.toNatClampNeg)) (upd (upd d k.toNatClampNeg (1 : Int32)) k.toNatClampNeg (d k.toNatClampNeg)) tr (nI fn) (nI qn) sd (0 : Int32)) H := hP
            have hD : va_D _ (mW cI cZ h b1 b2 b3 (upd (upd (upd u k.toNatClampNeg (1 : Int32)) k.toNatClampNeg (0 : Int32)) k.toNatClampNeg (u k.toNatClampNeg)) (upd (upd d k.toNatClampNeg (1 : Int32)) k.toNatClampNeg (d k.toNatClampNeg)) tr (nI fn) (nI qn) sd (0 : Int32)) := oo_Dre hD (oo_fc (oo_fc (oo_fc (oo_fc rfl))))
            refine lv_aload_n hx hb dX1_influence_109 rfl (lv_at hl 5 rfl) ?_
            refine lv_lload hx hb dX1_influence_110 (lv_at hl 2 rfl) ?_
            refine lv_lload hx hb dX1_influence_112 (lv_at hl 0 rfl) ?_
            refine lv_lsub hx hb dX1_influence_114 ?_
            refine lv_lload hx hb dX1_influence_115 (lv_at hl 1 rfl) ?_
            refine lv_iload_n hx hb dX1_influence_117 rfl (lv_at hl 8 rfl) ?_
            refine ro_calll (va_runV (As := [.long ((kvX1_sum (upd u k.toNatClampNeg (1 : Int32)) (upd d k.toNatClampNeg (1 : Int32)) tr fn q.toNatClampNeg) - (kvX1_sum (upd (upd u k.toNatClampNeg (1 : Int32)) k.toNatClampNeg (0 : Int32)) (upd d k.toNatClampNeg (1 : Int32)) tr fn q.toNatClampNeg)), .long (kvX1_all (upd d k.toNatClampNeg (1 : Int32)) fn), .int pt]) (rest := []) ⟨hx, hb, hml, hown, hts⟩ (kX1_part l D cI cZ h b1 b2 b3 (upd (upd (upd u k.toNatClampNeg (1 : Int32)) k.toNatClampNeg (0 : Int32)) k.toNatClampNeg (u k.toNatClampNeg)) (upd (upd d k.toNatClampNeg (1 : Int32)) k.toNatClampNeg (d k.toNatClampNeg)) tr fn qn sd (0 : Int32) ((kvX1_sum (upd u k.toNatClampNeg (1 : Int32)) (upd d k.toNatClampNeg (1 : Int32)) tr fn q.toNatClampNeg) - (kvX1_sum (upd (upd u k.toNatClampNeg (1 : Int32)) k.toNatClampNeg (0 : Int32)) (upd d k.toNatClampNeg (1 : Int32)) tr fn q.toNatClampNeg)) (kvX1_all (upd d k.toNatClampNeg (1 : Int32)) fn) pt (hN c_10 c_14 c_22) (hz c_10 c_14 c_22)) (cwV 3 hts gX1_influence_X1_part rfl rfl rfl ok_X1_part ⟨Nat.le_of_ble_eq_true rfl, Nat.le_of_ble_eq_true rfl⟩) ⟨oo_blind, va_recv hK hP (ci := 1) (q0 := 0) rfl rfl, oo_ps hP hK [0, 1, 2, 3] rfl [0, 1] rfl⟩ rfl rfl hl.1 rfl (lv_room (Nat.le_of_ble_eq_true rfl)) dX1_influence_118 ⟨Nat.le_of_ble_eq_true rfl, Nat.le_of_ble_eq_true rfl⟩) hP hS (fun H locs hP hS => ?_)
            have hP := Eq.mp (congrArg (fun z9 => va_P D vwCl (mW cI cZ h b1 b2 b3 z9 (upd (upd d k.toNatClampNeg (1 : Int32)) k.toNatClampNeg (d k.toNatClampNeg)) tr (nI fn) (nI qn) sd (0 : Int32)) H) (show upd (upd (upd u k.toNatClampNeg (1 : Int32)) k.toNatClampNeg (0 : Int32)) k.toNatClampNeg (u k.toNatClampNeg) = u from (oo_upd3 u _ _ _))) hP
            have hP := Eq.mp (congrArg (fun z9 => va_P D vwCl (mW cI cZ h b1 b2 b3 u z9 tr (nI fn) (nI qn) sd (0 : Int32)) H) (show upd (upd d k.toNatClampNeg (1 : Int32)) k.toNatClampNeg (d k.toNatClampNeg) = d from (oo_upd2 d _ _))) hP
            have hP : va_P D vwCl (mW cI cZ h b1 b2 b3 u d tr (nI fn) (nI qn) sd (0 : Int32)) H := hP
            have hD : va_D _ (mW cI cZ h b1 b2 b3 u d tr (nI fn) (nI qn) sd (0 : Int32)) := oo_Dre hD (oo_fc (oo_fc (oo_fc (oo_fc rfl))))
            exact mu_retl hx hb hr hlocks hP hD hS (by unfold kvX1_influence; rw [if_neg c_10, if_neg c_14, if_neg c_22, if_neg c_26, if_pos c_31]) dX1_influence_121
          · refine lv_lconst (v := (0 : Int64)) hx hb dX1_influence_34 (by decide) ?_
            exact mu_retl hx hb hr hlocks hP hD hS (by unfold kvX1_influence; rw [if_neg c_10, if_neg c_14, if_neg c_22, if_neg c_26, if_neg c_31]) dX1_influence_35
def kl_mhI (tr : Nat → Int32) (q i : Nat) (a : Int32) : Nat → Int32
  | 0 => a
  | n + 1 => if tr (4096 * q + n) = tr (4096 * q + (n ^^^ 2 ^ i)) then kl_mhI tr q i a n ||| 0 else kl_mhI tr q i a n ||| nI (2 ^ i)
def kl_mhO (tr : Nat → Int32) (fn q : Nat) : Nat → Int32
  | 0 => 0
  | i + 1 => kl_mhI tr q i (kl_mhO tr fn q i) (2 ^ fn)
theorem oo_xorN (a b : Nat) : nI a ^^^ nI b = nI (a ^^^ b) := by
  apply Int32.toBitVec_inj.1
  show BitVec.ofNat 32 a ^^^ BitVec.ofNat 32 b = BitVec.ofNat 32 (a ^^^ b)
  apply BitVec.eq_of_getLsbD_eq
  intro i hi
  simp [hi]
theorem oo_xlt {n i fn : Nat} (h : n < 2 ^ fn) (hi : i < fn) : n ^^^ 2 ^ i < 2 ^ fn := Nat.xor_lt_two_pow h (Nat.pow_lt_pow_right (by omega) hi)
theorem ok_X1_hangs : yX1_hangs.cls = RX1 ∧ yX1_hangs.cls ≠ "java/lang/invoke/MethodHandle" ∧ yX1_hangs.cls ≠ "java/lang/invoke/VarHandle" ∧ (parseMethodDescriptor yX1_hangs.desc).map (fun d => d.parameters.length) = some 1 := by decide +kernel
def kvX1_hangs (tr : Nat → Int32) (fn : Nat) (qn : Nat) (q : Int32) : Int32 := if (kvX1_isQuestion qn q) = 0 then (-1 : Int32) else (kl_mhO tr fn q.toNatClampNeg fn)
set_option maxHeartbeats 4000000 in
set_option maxRecDepth 100000 in
theorem kX1_hangs (l : Launch) (D : va_G) (cI : ClassId) (cZ : ClassId) (h b1 b2 b3 : Nat) (u d tr : Nat → Int32) (fn qn : Nat) (sd : Int64) (th : Int32) (q : Int32) (hfn : fn ≤ 12) (hqn : qn ≤ 40) (h01 : oo_01 tr) : MuI l yX1_hangs wsX1_hangs ({ frames := 1, cells := 0, slots := 0, locals := 22 } : Room) [.ref h, .int q] D (mW cI cZ h b1 b2 b3 u d tr (nI fn) (nI qn) sd th) [(cI, .int), (cZ, .boolean)] (mW cI cZ h b1 b2 b3 u d tr (nI fn) (nI qn) sd (0 : Int32)) (kvX1_hangs tr fn qn q) := by
  intro sz
  refine oo_head (C := RX1) (cc := cX1_hangs) (maxL := 5) (ret := (some .int)) (by decide) rfl rfl (Nat.le_of_ble_eq_true rfl) ?_
  intro p e s m below meth c hx hb hr hlocks hml hown hnm hts hpre ls hl
  have hl : lv_has ls 5 [(0, .ref h), (1, .int q)] := hl
  obtain ⟨rfl, hP, hK, hD0⟩ := hpre
  have hD := hD0.self (sz := s.heap.size)
  have hA := oo_A (mW cI cZ h b1 b2 b3 u d tr (nI fn) (nI qn) sd th) s
  have hS : va_S (va_A (mW cI cZ h b1 b2 b3 u d tr (nI fn) (nI qn) sd th) s.heap.size) s.heap s.heap [] := va_S.rf
  have hin : ∀ w ∈ wsX10, w ∈ wsX1_hangs := fun w h => List.mem_cons_of_mem _ (List.mem_append_right _ h)
  have h2n : 2 ^ fn ≤ 2 ^ 12 := Nat.pow_le_pow_right (by omega) hfn
  refine lv_aload_n hx hb dX1_hangs_0 rfl (lv_at hl 0 rfl) ?_
  refine lv_iconst (v := (0 : Int32)) hx hb dX1_hangs_1 (by decide) ?_
  refine va_put (D := D) (ci := 1) (v := .int (0 : Int32)) (ty := .int) (C := RX1) (T := TX1) (N := 7) hx hb hts hin tyX1 tyX1_ok nmX1 hown hK hP hD hS 0 rfl rfl 6 (by decide) (hts (.fieldLink RX1 21 "OddsSamplingModel" "thrown" "I") (by decide +kernel)) (fun _ h9 => h9) rfl (by decide +kernel) rfl rfl (Nat.le_of_ble_eq_true rfl) dX1_hangs_2 (fun H locs hP hD hS => ?_)
  have hP : va_P D vwCl (mW cI cZ h b1 b2 b3 u d tr (nI fn) (nI qn) sd (0 : Int32)) H := hP
  have hD : va_D _ (mW cI cZ h b1 b2 b3 u d tr (nI fn) (nI qn) sd (0 : Int32)) := hD
  refine lv_aload_n hx hb dX1_hangs_5 rfl (lv_at hl 0 rfl) ?_
  refine lv_iload_n hx hb dX1_hangs_6 rfl (lv_at hl 1 rfl) ?_
  refine ro_calli (va_runV (As := [.int q]) (rest := []) ⟨hx, hb, hml, hown, hts⟩ (kX1_isQuestion l D cI cZ h b1 b2 b3 u d tr fn qn sd (0 : Int32) q) (cwV 1 hts gX1_hangs_X1_isQuestion rfl rfl rfl ok_X1_isQuestion ⟨Nat.le_of_ble_eq_true rfl, Nat.le_of_ble_eq_true rfl⟩) ⟨oo_blind, va_recv hK hP (ci := 1) (q0 := 0) rfl rfl, oo_ps hP hK [0, 1, 2, 3] rfl [0, 1] rfl⟩ rfl rfl hl.1 rfl (lv_room (Nat.le_of_ble_eq_true rfl)) dX1_hangs_7 ⟨Nat.le_of_ble_eq_true rfl, Nat.le_of_ble_eq_true rfl⟩) hP hS (fun H locs hP hS => ?_)
  refine lv_if_ne (tgt := 15) hx hb dX1_hangs_10 (by decide) (fun c_10 => ?_) (fun c_10 => ?_)
  · obtain ⟨hq1, hq2⟩ := oo_isQ hqn c_10
    refine lv_iconst (v := (0 : Int32)) hx hb dX1_hangs_15 (by decide) ?_
    refine lv_istore_n (lv' := [(2, .int (0 : Int32)), (0, .ref h), (1, .int q)]) hx hb dX1_hangs_16 rfl hl (by decide) rfl (fun ls hl => ?_)
    refine lv_iconst (v := nI 0) hx hb dX1_hangs_17 (by decide) ?_
    refine lv_istore_n (lv' := [(3, .int (nI 0)), (2, .int (0 : Int32)), (0, .ref h), (1, .int q)]) hx hb dX1_hangs_18 rfl hl (by decide) rfl (fun ls hl => ?_)
    have hl : lv_has ls 5 [(0, .ref h), (1, .int q), (2, .int (0 : Int32)), (3, .int (nI 0))] := lv_sub hl [2, 3, 1, 0] rfl
    have hl := Eq.mp (congrArg (fun z9 => lv_has ls 5 [(0, .ref h), (1, .int q), (2, .int z9), (3, .int (nI 0))]) (show (0 : Int32) = kl_mhO tr fn q.toNatClampNeg 0 from (by first | (simp only [kl_mhO]; done) | (simp only [kl_mhO]; rw [if_neg c_10])))) hl
    refine oo_loop (N := fn) (fun i H locs ls => va_P D vwCl (mW cI cZ h b1 b2 b3 u d tr (nI fn) (nI qn) sd (0 : Int32)) H ∧ va_D (va_A (mW cI cZ h b1 b2 b3 u d tr (nI fn) (nI qn) sd th) s.heap.size) (mW cI cZ h b1 b2 b3 u d tr (nI fn) (nI qn) sd (0 : Int32)) ∧ va_S (va_A (mW cI cZ h b1 b2 b3 u d tr (nI fn) (nI qn) sd th) s.heap.size) s.heap H locs ∧ lv_has ls 5 [(0, .ref h), (1, .int q), (2, .int (kl_mhO tr fn q.toNatClampNeg i)), (3, .int (nI i))]) ?_ ?_ 0 (Nat.zero_le _) ⟨hP, hD, hS, hl⟩
    · intro H locs ls hI
      obtain ⟨hP, hD, hS, hl⟩ := hI
      refine lv_iload_n hx hb dX1_hangs_19 rfl (lv_at hl 3 rfl) ?_
      refine lv_aload_n hx hb dX1_hangs_20 rfl (lv_at hl 0 rfl) ?_
      refine va_get (D := D) (ci := 1) (v := .int (nI fn)) (C := RX1) (T := TX1) (N := 7) hx hb hts hin hown hK hP 0 rfl rfl 2 (by decide) (hts (.fieldLink RX1 28 "OddsSamplingModel" "facts" "I") (by decide +kernel)) (fun _ h9 => h9) rfl dX1_hangs_21 ?_
      refine lv_icmp_ge (tgt := 84) hx hb dX1_hangs_24 (by decide) (fun c_24 => ?_) (fun c_24 => ?_)
      · refine lv_iload_n hx hb dX1_hangs_84 rfl (lv_at hl 2 rfl) ?_
        exact mu_reti hx hb hr hlocks hP hD hS (by unfold kvX1_hangs; rw [if_neg c_10]) dX1_hangs_85
      · exact absurd (nI_le (Nat.le_refl _) (by omega)) c_24
    · intro i hlti ihi H locs ls hI
      obtain ⟨hP, hD, hS, hl⟩ := hI
      refine lv_iload_n hx hb dX1_hangs_19 rfl (lv_at hl 3 rfl) ?_
      refine lv_aload_n hx hb dX1_hangs_20 rfl (lv_at hl 0 rfl) ?_
      refine va_get (D := D) (ci := 1) (v := .int (nI fn)) (C := RX1) (T := TX1) (N := 7) hx hb hts hin hown hK hP 0 rfl rfl 2 (by decide) (hts (.fieldLink RX1 28 "OddsSamplingModel" "facts" "I") (by decide +kernel)) (fun _ h9 => h9) rfl dX1_hangs_21 ?_
      refine lv_icmp_ge (tgt := 84) hx hb dX1_hangs_24 (by decide) (fun c_24 => ?_) (fun c_24 => ?_)
      · exact absurd c_24 (nI_ge hlti (by omega))
      · refine lv_iconst (v := nI 0) hx hb dX1_hangs_27 (by decide) ?_
        refine lv_istore (lv' := [(4, .int (nI 0)), (0, .ref h), (1, .int q), (2, .int (kl_mhO tr fn q.toNatClampNeg i)), (3, .int (nI i))]) hx hb dX1_hangs_28 hl (by decide) rfl (fun ls hl => ?_)
        have hl : lv_has ls 5 [(0, .ref h), (1, .int q), (2, .int (kl_mhO tr fn q.toNatClampNeg i)), (3, .int (nI i)), (4, .int (nI 0))] := lv_sub hl [1, 2, 3, 4, 0] rfl
        have hl := Eq.mp (congrArg (fun z9 => lv_has ls 5 [(0, .ref h), (1, .int q), (2, .int z9), (3, .int (nI i)), (4, .int (nI 0))]) (show kl_mhO tr fn q.toNatClampNeg i = kl_mhI tr q.toNatClampNeg i (kl_mhO tr fn q.toNatClampNeg i) 0 from (by simp only [kl_mhI]))) hl
        refine oo_loop (N := (2 ^ fn)) (fun n H locs ls => va_P D vwCl (mW cI cZ h b1 b2 b3 u d tr (nI fn) (nI qn) sd (0 : Int32)) H ∧ va_D (va_A (mW cI cZ h b1 b2 b3 u d tr (nI fn) (nI qn) sd th) s.heap.size) (mW cI cZ h b1 b2 b3 u d tr (nI fn) (nI qn) sd (0 : Int32)) ∧ va_S (va_A (mW cI cZ h b1 b2 b3 u d tr (nI fn) (nI qn) sd th) s.heap.size) s.heap H locs ∧ lv_has ls 5 [(0, .ref h), (1, .int q), (2, .int (kl_mhI tr q.toNatClampNeg i (kl_mhO tr fn q.toNatClampNeg i) n)), (3, .int (nI i)), (4, .int (nI n))]) ?_ ?_ 0 (Nat.zero_le _) ⟨hP, hD, hS, hl⟩
        · intro H locs ls hI
          obtain ⟨hP, hD, hS, hl⟩ := hI
          refine lv_iload hx hb dX1_hangs_30 (lv_at hl 4 rfl) ?_
          refine lv_iconst (v := (1 : Int32)) hx hb dX1_hangs_32 (by decide) ?_
          refine lv_aload_n hx hb dX1_hangs_33 rfl (lv_at hl 0 rfl) ?_
          refine va_get (D := D) (ci := 1) (v := .int (nI fn)) (C := RX1) (T := TX1) (N := 7) hx hb hts hin hown hK hP 0 rfl rfl 2 (by decide) (hts (.fieldLink RX1 28 "OddsSamplingModel" "facts" "I") (by decide +kernel)) (fun _ h9 => h9) rfl dX1_hangs_34 ?_
          refine lv_ishl hx hb dX1_hangs_37 ?_
          refine oo_topI (y := nI (2 ^ fn)) (oo_shl1 fn (by omega)) ?_
          refine lv_icmp_ge (tgt := 78) hx hb dX1_hangs_38 (by decide) (fun c_38 => ?_) (fun c_38 => ?_)
          · refine lv_iinc (v := nI (i + 1)) (lv' := [(3, .int (nI (i + 1))), (0, .ref h), (1, .int q), (2, .int (kl_mhI tr q.toNatClampNeg i (kl_mhO tr fn q.toNatClampNeg i) (2 ^ fn))), (4, .int (nI (2 ^ fn)))]) hx hb dX1_hangs_78 hl (k := 3) rfl (oo_inc i 1) (by decide) rfl (fun ls hl => ?_)
            refine lv_goto (tgt := 19) hx hb dX1_hangs_81 (by decide) ?_
            have hl : lv_has ls 5 [(0, .ref h), (1, .int q), (2, .int (kl_mhI tr q.toNatClampNeg i (kl_mhO tr fn q.toNatClampNeg i) (2 ^ fn))), (3, .int (nI (i + 1)))] := lv_sub hl [1, 2, 3, 0] rfl
            have hl := Eq.mp (congrArg (fun z9 => lv_has ls 5 [(0, .ref h), (1, .int q), (2, .int z9), (3, .int (nI (i + 1)))]) (show kl_mhI tr q.toNatClampNeg i (kl_mhO tr fn q.toNatClampNeg i) (2 ^ fn) = kl_mhO tr fn q.toNatClampNeg (i + 1) from (by simp only [kl_mhO]))) hl
            exact ihi _ _ _ ⟨hP, hD, hS, hl⟩
          · exact absurd (nI_le (Nat.le_refl _) (by omega)) c_38
        · intro n hltn ihn H locs ls hI
          obtain ⟨hP, hD, hS, hl⟩ := hI
          refine lv_iload hx hb dX1_hangs_30 (lv_at hl 4 rfl) ?_
          refine lv_iconst (v := (1 : Int32)) hx hb dX1_hangs_32 (by decide) ?_
          refine lv_aload_n hx hb dX1_hangs_33 rfl (lv_at hl 0 rfl) ?_
          refine va_get (D := D) (ci := 1) (v := .int (nI fn)) (C := RX1) (T := TX1) (N := 7) hx hb hts hin hown hK hP 0 rfl rfl 2 (by decide) (hts (.fieldLink RX1 28 "OddsSamplingModel" "facts" "I") (by decide +kernel)) (fun _ h9 => h9) rfl dX1_hangs_34 ?_
          refine lv_ishl hx hb dX1_hangs_37 ?_
          refine oo_topI (y := nI (2 ^ fn)) (oo_shl1 fn (by omega)) ?_
          refine lv_icmp_ge (tgt := 78) hx hb dX1_hangs_38 (by decide) (fun c_38 => ?_) (fun c_38 => ?_)
          · exact absurd c_38 (nI_ge hltn (by omega))
          · refine lv_iload_n hx hb dX1_hangs_41 rfl (lv_at hl 2 rfl) ?_
            refine lv_aload_n hx hb dX1_hangs_42 rfl (lv_at hl 0 rfl) ?_
            refine lv_iload_n hx hb dX1_hangs_43 rfl (lv_at hl 1 rfl) ?_
            refine oo_topI (y := nI q.toNatClampNeg) hq1 ?_
            refine lv_iload hx hb dX1_hangs_44 (lv_at hl 4 rfl) ?_
            refine ro_calli (va_runV (As := [.int (nI q.toNatClampNeg), .int (nI n)]) (rest := [.int (kl_mhI tr q.toNatClampNeg i (kl_mhO tr fn q.toNatClampNeg i) n)]) ⟨hx, hb, hml, hown, hts⟩ (kX1_isTrue l D cI cZ h b1 b2 b3 u d tr fn qn sd (0 : Int32) q.toNatClampNeg n (by omega) (by omega) h01) (cwV 2 hts gX1_hangs_X1_isTrue rfl rfl rfl ok_X1_isTrue ⟨Nat.le_of_ble_eq_true rfl, Nat.le_of_ble_eq_true rfl⟩) ⟨oo_blind, va_recv hK hP (ci := 1) (q0 := 0) rfl rfl, oo_ps hP hK [0, 1, 2, 3] rfl [0, 1] rfl⟩ rfl rfl hl.1 rfl (lv_room (Nat.le_of_ble_eq_true rfl)) dX1_hangs_46 ⟨Nat.le_of_ble_eq_true rfl, Nat.le_of_ble_eq_true rfl⟩) hP hS (fun H locs hP hS => ?_)
            refine lv_aload_n hx hb dX1_hangs_49 rfl (lv_at hl 0 rfl) ?_
            refine lv_iload_n hx hb dX1_hangs_50 rfl (lv_at hl 1 rfl) ?_
            refine oo_topI (y := nI q.toNatClampNeg) hq1 ?_
            refine lv_iload hx hb dX1_hangs_51 (lv_at hl 4 rfl) ?_
            refine lv_iconst (v := (1 : Int32)) hx hb dX1_hangs_53 (by decide) ?_
            refine lv_iload_n hx hb dX1_hangs_54 rfl (lv_at hl 3 rfl) ?_
            refine lv_ishl hx hb dX1_hangs_55 ?_
            refine oo_topI (y := nI (2 ^ i)) (oo_shl1 i (by omega)) ?_
            refine lv_ixor hx hb dX1_hangs_56 ?_
            refine oo_topI (y := nI (n ^^^ 2 ^ i)) (oo_xorN _ _) ?_
            refine ro_calli (va_runV (As := [.int (nI q.toNatClampNeg), .int (nI (n ^^^ 2 ^ i))]) (rest := [.int (tr (4096 * q.toNatClampNeg + n)), .int (kl_mhI tr q.toNatClampNeg i (kl_mhO tr fn q.toNatClampNeg i) n)]) ⟨hx, hb, hml, hown, hts⟩ (kX1_isTrue l D cI cZ h b1 b2 b3 u d tr fn qn sd (0 : Int32) q.toNatClampNeg (n ^^^ 2 ^ i) (by omega) (Nat.lt_of_lt_of_le (oo_xlt hltn hlti) h2n) h01) (cwV 2 hts gX1_hangs_X1_isTrue rfl rfl rfl ok_X1_isTrue ⟨Nat.le_of_ble_eq_true rfl, Nat.le_of_ble_eq_true rfl⟩) ⟨oo_blind, va_recv hK hP (ci := 1) (q0 := 0) rfl rfl, oo_ps hP hK [0, 1, 2, 3] rfl [0, 1] rfl⟩ rfl rfl hl.1 rfl (lv_room (Nat.le_of_ble_eq_true rfl)) dX1_hangs_57 ⟨Nat.le_of_ble_eq_true rfl, Nat.le_of_ble_eq_true rfl⟩) hP hS (fun H locs hP hS => ?_)
            refine lv_icmp_eq (tgt := 69) hx hb dX1_hangs_60 (by decide) (fun c_60 => ?_) (fun c_60 => ?_)
            · refine lv_iconst (v := (0 : Int32)) hx hb dX1_hangs_69 (by decide) ?_
              refine lv_ior hx hb dX1_hangs_70 ?_
              refine lv_istore_n (lv' := [(2, .int ((kl_mhI tr q.toNatClampNeg i (kl_mhO tr fn q.toNatClampNeg i) n) ||| (0 : Int32))), (0, .ref h), (1, .int q), (3, .int (nI i)), (4, .int (nI n))]) hx hb dX1_hangs_71 rfl hl (by decide) rfl (fun ls hl => ?_)
              refine lv_iinc (v := nI (n + 1)) (lv' := [(4, .int (nI (n + 1))), (2, .int ((kl_mhI tr q.toNatClampNeg i (kl_mhO tr fn q.toNatClampNeg i) n) ||| (0 : Int32))), (0, .ref h), (1, .int q), (3, .int (nI i))]) hx hb dX1_hangs_72 hl (k := 4) rfl (oo_inc n 1) (by decide) rfl (fun ls hl => ?_)
              refine lv_goto (tgt := 30) hx hb dX1_hangs_75 (by decide) ?_
              have hl : lv_has ls 5 [(0, .ref h), (1, .int q), (2, .int ((kl_mhI tr q.toNatClampNeg i (kl_mhO tr fn q.toNatClampNeg i) n) ||| (0 : Int32))), (3, .int (nI i)), (4, .int (nI (n + 1)))] := lv_sub hl [2, 3, 1, 4, 0] rfl
              have hl := Eq.mp (congrArg (fun z9 => lv_has ls 5 [(0, .ref h), (1, .int q), (2, .int z9), (3, .int (nI i)), (4, .int (nI (n + 1)))]) (show (kl_mhI tr q.toNatClampNeg i (kl_mhO tr fn q.toNatClampNeg i) n) ||| (0 : Int32) = kl_mhI tr q.toNatClampNeg i (kl_mhO tr fn q.toNatClampNeg i) (n + 1) from (by first | (simp only [kl_mhI]; done) | (simp only [kl_mhI]; rw [if_pos c_60])))) hl
              exact ihn _ _ _ ⟨hP, hD, hS, hl⟩
            · refine lv_iconst (v := (1 : Int32)) hx hb dX1_hangs_63 (by decide) ?_
              refine lv_iload_n hx hb dX1_hangs_64 rfl (lv_at hl 3 rfl) ?_
              refine lv_ishl hx hb dX1_hangs_65 ?_
              refine oo_topI (y := nI (2 ^ i)) (oo_shl1 i (by omega)) ?_
              refine lv_goto (tgt := 70) hx hb dX1_hangs_66 (by decide) ?_
              refine lv_ior hx hb dX1_hangs_70 ?_
              refine lv_istore_n (lv' := [(2, .int ((kl_mhI tr q.toNatClampNeg i (kl_mhO tr fn q.toNatClampNeg i) n) ||| (nI (2 ^ i)))), (0, .ref h), (1, .int q), (3, .int (nI i)), (4, .int (nI n))]) hx hb dX1_hangs_71 rfl hl (by decide) rfl (fun ls hl => ?_)
              refine lv_iinc (v := nI (n + 1)) (lv' := [(4, .int (nI (n + 1))), (2, .int ((kl_mhI tr q.toNatClampNeg i (kl_mhO tr fn q.toNatClampNeg i) n) ||| (nI (2 ^ i)))), (0, .ref h), (1, .int q), (3, .int (nI i))]) hx hb dX1_hangs_72 hl (k := 4) rfl (oo_inc n 1) (by decide) rfl (fun ls hl => ?_)
              refine lv_goto (tgt := 30) hx hb dX1_hangs_75 (by decide) ?_
              have hl : lv_has ls 5 [(0, .ref h), (1, .int q), (2, .int ((kl_mhI tr q.toNatClampNeg i (kl_mhO tr fn q.toNatClampNeg i) n) ||| (nI (2 ^ i)))), (3, .int (nI i)), (4, .int (nI (n + 1)))] := lv_sub hl [2, 3, 1, 4, 0] rfl
              have hl := Eq.mp (congrArg (fun z9 => lv_has ls 5 [(0, .ref h), (1, .int q), (2, .int z9), (3, .int (nI i)), (4, .int (nI (n + 1)))]) (show (kl_mhI tr q.toNatClampNeg i (kl_mhO tr fn q.toNatClampNeg i) n) ||| (nI (2 ^ i)) = kl_mhI tr q.toNatClampNeg i (kl_mhO tr fn q.toNatClampNeg i) (n + 1) from (by first | (simp only [kl_mhI]; done) | (simp only [kl_mhI]; rw [if_neg c_60])))) hl
              exact ihn _ _ _ ⟨hP, hD, hS, hl⟩
  · refine lv_iconst (v := (-1 : Int32)) hx hb dX1_hangs_13 (by decide) ?_
    exact mu_reti hx hb hr hlocks hP hD hS (by unfold kvX1_hangs; rw [if_pos c_10]) dX1_hangs_14
def kl_best (u d tr : Nat → Int32) (fn q : Nat) : Nat → Int32
  | 0 => -2
  | n + 1 => if tr (4096 * q + n) = 0 then kl_best u d tr fn q n else (if kl_best u d tr fn q n < 0 then nI n else (if lg_cmp (kvX1_weigh u d fn (nI n)) (kvX1_weigh u d fn (kl_best u d tr fn q n)) ≤ 0 then kl_best u d tr fn q n else nI n))
theorem ok_X1_best : yX1_best.cls = RX1 ∧ yX1_best.cls ≠ "java/lang/invoke/MethodHandle" ∧ yX1_best.cls ≠ "java/lang/invoke/VarHandle" ∧ (parseMethodDescriptor yX1_best.desc).map (fun d => d.parameters.length) = some 1 := by decide +kernel
def kvX1_best (u : Nat → Int32) (d : Nat → Int32) (tr : Nat → Int32) (fn : Nat) (q : Nat) : Int32 := kl_best u d tr fn q (2 ^ fn)
set_option maxHeartbeats 4000000 in
set_option maxRecDepth 100000 in
theorem kX1_best (l : Launch) (D : va_G) (cI : ClassId) (cZ : ClassId) (h b1 b2 b3 : Nat) (u d tr : Nat → Int32) (fn qn : Nat) (sd : Int64) (th : Int32) (q : Nat)  (hfn : fn ≤ 12) (hq : q < 40) (h01 : oo_01 tr) : RoI l yX1_best wsX1_best ({ frames := 1, cells := 0, slots := 0, locals := 24 } : Room) [.ref h, .int (nI q)] D (mW cI cZ h b1 b2 b3 u d tr (nI fn) (nI qn) sd th) [(cI, .int), (cZ, .boolean)] (kvX1_best u d tr fn q) := by
  refine oo_head (C := RX1) (cc := cX1_best) (maxL := 4) (ret := (some .int)) (by decide) rfl rfl (Nat.le_of_ble_eq_true rfl) ?_
  intro p e s m below meth c hx hb hr hlocks hml hown hnm hts hpre ls hl
  have hl : lv_has ls 4 [(0, .ref h), (1, .int (nI q))] := hl
  obtain ⟨hP, hK⟩ := hpre
  have hS : va_S oo_N s.heap s.heap [] := va_S.rf
  have hin : ∀ w ∈ wsX10, w ∈ wsX1_best := fun w h => List.mem_cons_of_mem _ (List.mem_append_right _ h)
  have h2n : 2 ^ fn ≤ 2 ^ 12 := Nat.pow_le_pow_right (by omega) hfn
  refine lv_bipush (v := (-2 : Int32)) hx hb dX1_best_0 (by decide) ?_
  refine lv_istore_n (lv' := [(2, .int (-2 : Int32)), (0, .ref h), (1, .int (nI q))]) hx hb dX1_best_2 rfl hl (by decide) rfl (fun ls hl => ?_)
  refine lv_iconst (v := nI 0) hx hb dX1_best_3 (by decide) ?_
  refine lv_istore_n (lv' := [(3, .int (nI 0)), (2, .int (-2 : Int32)), (0, .ref h), (1, .int (nI q))]) hx hb dX1_best_4 rfl hl (by decide) rfl (fun ls hl => ?_)
  have hl : lv_has ls 4 [(0, .ref h), (1, .int (nI q)), (2, .int (-2 : Int32)), (3, .int (nI 0))] := lv_sub hl [2, 3, 1, 0] rfl
  have hl := Eq.mp (congrArg (fun z9 => lv_has ls 4 [(0, .ref h), (1, .int (nI q)), (2, .int z9), (3, .int (nI 0))]) (show (-2 : Int32) = kl_best u d tr fn q 0 from (by simp only [kl_best]))) hl
  refine oo_loop (N := (2 ^ fn)) (fun n H locs ls => va_P D vwCl (mW cI cZ h b1 b2 b3 u d tr (nI fn) (nI qn) sd th) H ∧ va_S (oo_N) s.heap H locs ∧ lv_has ls 4 [(0, .ref h), (1, .int (nI q)), (2, .int (kl_best u d tr fn q n)), (3, .int (nI n))]) ?_ ?_ 0 (Nat.zero_le _) ⟨hP, hS, hl⟩
  · intro H locs ls hI
    obtain ⟨hP, hS, hl⟩ := hI
    refine lv_iload_n hx hb dX1_best_5 rfl (lv_at hl 3 rfl) ?_
    refine lv_iconst (v := (1 : Int32)) hx hb dX1_best_6 (by decide) ?_
    refine lv_aload_n hx hb dX1_best_7 rfl (lv_at hl 0 rfl) ?_
    refine va_get (D := D) (ci := 1) (v := .int (nI fn)) (C := RX1) (T := TX1) (N := 7) hx hb hts hin hown hK hP 0 rfl rfl 2 (by decide) (hts (.fieldLink RX1 28 "OddsSamplingModel" "facts" "I") (by decide +kernel)) (fun _ h9 => h9) rfl dX1_best_8 ?_
    refine lv_ishl hx hb dX1_best_11 ?_
    refine oo_topI (y := nI (2 ^ fn)) (oo_shl1 fn (by omega)) ?_
    refine lv_icmp_ge (tgt := 50) hx hb dX1_best_12 (by decide) (fun c_12 => ?_) (fun c_12 => ?_)
    · refine lv_iload_n hx hb dX1_best_50 rfl (lv_at hl 2 rfl) ?_
      exact ro_reti hx hb hr hlocks hS (by unfold kvX1_best; rfl) dX1_best_51
    · exact absurd (nI_le (Nat.le_refl _) (by omega)) c_12
  · intro n hltn ihn H locs ls hI
    obtain ⟨hP, hS, hl⟩ := hI
    refine lv_iload_n hx hb dX1_best_5 rfl (lv_at hl 3 rfl) ?_
    refine lv_iconst (v := (1 : Int32)) hx hb dX1_best_6 (by decide) ?_
    refine lv_aload_n hx hb dX1_best_7 rfl (lv_at hl 0 rfl) ?_
    refine va_get (D := D) (ci := 1) (v := .int (nI fn)) (C := RX1) (T := TX1) (N := 7) hx hb hts hin hown hK hP 0 rfl rfl 2 (by decide) (hts (.fieldLink RX1 28 "OddsSamplingModel" "facts" "I") (by decide +kernel)) (fun _ h9 => h9) rfl dX1_best_8 ?_
    refine lv_ishl hx hb dX1_best_11 ?_
    refine oo_topI (y := nI (2 ^ fn)) (oo_shl1 fn (by omega)) ?_
    refine lv_icmp_ge (tgt := 50) hx hb dX1_best_12 (by decide) (fun c_12 => ?_) (fun c_12 => ?_)
    · exact absurd c_12 (nI_ge hltn (by omega))
    · refine lv_aload_n hx hb dX1_best_15 rfl (lv_at hl 0 rfl) ?_
      refine lv_iload_n hx hb dX1_best_16 rfl (lv_at hl 1 rfl) ?_
      refine lv_iload_n hx hb dX1_best_17 rfl (lv_at hl 3 rfl) ?_
      refine ro_calli (va_runV (As := [.int (nI q), .int (nI n)]) (rest := []) ⟨hx, hb, hml, hown, hts⟩ (kX1_isTrue l D cI cZ h b1 b2 b3 u d tr fn qn sd th q n hq (by omega) h01) (cwV 2 hts gX1_best_X1_isTrue rfl rfl rfl ok_X1_isTrue ⟨Nat.le_of_ble_eq_true rfl, Nat.le_of_ble_eq_true rfl⟩) ⟨oo_blind, va_recv hK hP (ci := 1) (q0 := 0) rfl rfl, oo_ps hP hK [0, 1, 2, 3] rfl [0, 1] rfl⟩ rfl rfl hl.1 rfl (lv_room (Nat.le_of_ble_eq_true rfl)) dX1_best_18 ⟨Nat.le_of_ble_eq_true rfl, Nat.le_of_ble_eq_true rfl⟩) hP hS (fun H locs hP hS => ?_)
      refine lv_if_eq (tgt := 44) hx hb dX1_best_21 (by decide) (fun c_21 => ?_) (fun c_21 => ?_)
      · refine lv_iinc (v := nI (n + 1)) (lv' := [(3, .int (nI (n + 1))), (0, .ref h), (1, .int (nI q)), (2, .int (kl_best u d tr fn q n))]) hx hb dX1_best_44 hl (k := 3) rfl (oo_inc n 1) (by decide) rfl (fun ls hl => ?_)
        refine lv_goto (tgt := 5) hx hb dX1_best_47 (by decide) ?_
        have hl : lv_has ls 4 [(0, .ref h), (1, .int (nI q)), (2, .int (kl_best u d tr fn q n)), (3, .int (nI (n + 1)))] := lv_sub hl [1, 2, 3, 0] rfl
        have hl := Eq.mp (congrArg (fun z9 => lv_has ls 4 [(0, .ref h), (1, .int (nI q)), (2, .int z9), (3, .int (nI (n + 1)))]) (show kl_best u d tr fn q n = kl_best u d tr fn q (n + 1) from (by first | (simp only [kl_best]; done) | (simp only [kl_best]; rw [if_pos c_21])))) hl
        exact ihn _ _ _ ⟨hP, hS, hl⟩
      · refine lv_iload_n hx hb dX1_best_24 rfl (lv_at hl 2 rfl) ?_
        refine lv_if_lt (tgt := 42) hx hb dX1_best_25 (by decide) (fun c_25 => ?_) (fun c_25 => ?_)
        · refine lv_iload_n hx hb dX1_best_42 rfl (lv_at hl 3 rfl) ?_
          refine lv_istore_n (lv' := [(2, .int (nI n)), (0, .ref h), (1, .int (nI q)), (3, .int (nI n))]) hx hb dX1_best_43 rfl hl (by decide) rfl (fun ls hl => ?_)
          refine lv_iinc (v := nI (n + 1)) (lv' := [(3, .int (nI (n + 1))), (2, .int (nI n)), (0, .ref h), (1, .int (nI q))]) hx hb dX1_best_44 hl (k := 3) rfl (oo_inc n 1) (by decide) rfl (fun ls hl => ?_)
          refine lv_goto (tgt := 5) hx hb dX1_best_47 (by decide) ?_
          have hl : lv_has ls 4 [(0, .ref h), (1, .int (nI q)), (2, .int (nI n)), (3, .int (nI (n + 1)))] := lv_sub hl [2, 3, 1, 0] rfl
          have hl := Eq.mp (congrArg (fun z9 => lv_has ls 4 [(0, .ref h), (1, .int (nI q)), (2, .int z9), (3, .int (nI (n + 1)))]) (show nI n = kl_best u d tr fn q (n + 1) from (by first | (simp only [kl_best]; done) | (simp only [kl_best]; rw [if_neg c_21, if_pos c_25])))) hl
          exact ihn _ _ _ ⟨hP, hS, hl⟩
        · refine lv_aload_n hx hb dX1_best_28 rfl (lv_at hl 0 rfl) ?_
          refine lv_iload_n hx hb dX1_best_29 rfl (lv_at hl 3 rfl) ?_
          refine ro_calll (va_runV (As := [.int (nI n)]) (rest := []) ⟨hx, hb, hml, hown, hts⟩ (kX1_weigh l D cI cZ h b1 b2 b3 u d tr fn qn sd th (nI n) hfn) (cwV 1 hts gX1_best_X1_weigh rfl rfl rfl ok_X1_weigh ⟨Nat.le_of_ble_eq_true rfl, Nat.le_of_ble_eq_true rfl⟩) ⟨oo_blind, va_recv hK hP (ci := 1) (q0 := 0) rfl rfl, oo_ps hP hK [0, 1, 2, 3] rfl [0, 1] rfl⟩ rfl rfl hl.1 rfl (lv_room (Nat.le_of_ble_eq_true rfl)) dX1_best_30 ⟨Nat.le_of_ble_eq_true rfl, Nat.le_of_ble_eq_true rfl⟩) hP hS (fun H locs hP hS => ?_)
          refine lv_aload_n hx hb dX1_best_33 rfl (lv_at hl 0 rfl) ?_
          refine lv_iload_n hx hb dX1_best_34 rfl (lv_at hl 2 rfl) ?_
          refine ro_calll (va_runV (As := [.int (kl_best u d tr fn q n)]) (rest := [.long (kvX1_weigh u d fn (nI n))]) ⟨hx, hb, hml, hown, hts⟩ (kX1_weigh l D cI cZ h b1 b2 b3 u d tr fn qn sd th (kl_best u d tr fn q n) hfn) (cwV 1 hts gX1_best_X1_weigh rfl rfl rfl ok_X1_weigh ⟨Nat.le_of_ble_eq_true rfl, Nat.le_of_ble_eq_true rfl⟩) ⟨oo_blind, va_recv hK hP (ci := 1) (q0 := 0) rfl rfl, oo_ps hP hK [0, 1, 2, 3] rfl [0, 1] rfl⟩ rfl rfl hl.1 rfl (lv_room (Nat.le_of_ble_eq_true rfl)) dX1_best_35 ⟨Nat.le_of_ble_eq_true rfl, Nat.le_of_ble_eq_true rfl⟩) hP hS (fun H locs hP hS => ?_)
          refine W.lcmp hx hb dX1_best_38 ?_
          refine lv_if_le (tgt := 44) hx hb dX1_best_39 (by decide) (fun c_39 => ?_) (fun c_39 => ?_)
          · refine lv_iinc (v := nI (n + 1)) (lv' := [(3, .int (nI (n + 1))), (0, .ref h), (1, .int (nI q)), (2, .int (kl_best u d tr fn q n))]) hx hb dX1_best_44 hl (k := 3) rfl (oo_inc n 1) (by decide) rfl (fun ls hl => ?_)
            refine lv_goto (tgt := 5) hx hb dX1_best_47 (by decide) ?_
            have hl : lv_has ls 4 [(0, .ref h), (1, .int (nI q)), (2, .int (kl_best u d tr fn q n)), (3, .int (nI (n + 1)))] := lv_sub hl [1, 2, 3, 0] rfl
            have hl := Eq.mp (congrArg (fun z9 => lv_has ls 4 [(0, .ref h), (1, .int (nI q)), (2, .int z9), (3, .int (nI (n + 1)))]) (show kl_best u d tr fn q n = kl_best u d tr fn q (n + 1) from (by first | (simp only [kl_best]; done) | (simp only [kl_best]; rw [if_neg c_21, if_neg c_25, if_pos c_39])))) hl
            exact ihn _ _ _ ⟨hP, hS, hl⟩
          · refine lv_iload_n hx hb dX1_best_42 rfl (lv_at hl 3 rfl) ?_
            refine lv_istore_n (lv' := [(2, .int (nI n)), (0, .ref h), (1, .int (nI q)), (3, .int (nI n))]) hx hb dX1_best_43 rfl hl (by decide) rfl (fun ls hl => ?_)
            refine lv_iinc (v := nI (n + 1)) (lv' := [(3, .int (nI (n + 1))), (2, .int (nI n)), (0, .ref h), (1, .int (nI q))]) hx hb dX1_best_44 hl (k := 3) rfl (oo_inc n 1) (by decide) rfl (fun ls hl => ?_)
            refine lv_goto (tgt := 5) hx hb dX1_best_47 (by decide) ?_
            have hl : lv_has ls 4 [(0, .ref h), (1, .int (nI q)), (2, .int (nI n)), (3, .int (nI (n + 1)))] := lv_sub hl [2, 3, 1, 0] rfl
            have hl := Eq.mp (congrArg (fun z9 => lv_has ls 4 [(0, .ref h), (1, .int (nI q)), (2, .int z9), (3, .int (nI (n + 1)))]) (show nI n = kl_best u d tr fn q (n + 1) from (by first | (simp only [kl_best]; done) | (simp only [kl_best]; rw [if_neg c_21, if_neg c_25, if_neg c_39])))) hl
            exact ihn _ _ _ ⟨hP, hS, hl⟩
theorem ok_X1_likeliest : yX1_likeliest.cls = RX1 ∧ yX1_likeliest.cls ≠ "java/lang/invoke/MethodHandle" ∧ yX1_likeliest.cls ≠ "java/lang/invoke/VarHandle" ∧ (parseMethodDescriptor yX1_likeliest.desc).map (fun d => d.parameters.length) = some 1 := by decide +kernel
def kvX1_likeliest (u : Nat → Int32) (d : Nat → Int32) (tr : Nat → Int32) (fn : Nat) (qn : Nat) (q : Int32) : Int32 := if (kvX1_isQuestion qn q) = 0 then (-1 : Int32) else (kvX1_best u d tr fn q.toNatClampNeg)
set_option maxHeartbeats 4000000 in
set_option maxRecDepth 100000 in
theorem kX1_likeliest (l : Launch) (D : va_G) (cI : ClassId) (cZ : ClassId) (h b1 b2 b3 : Nat) (u d tr : Nat → Int32) (fn qn : Nat) (sd : Int64) (th : Int32) (q : Int32) (hfn : fn ≤ 12) (hqn : qn ≤ 40) (h01 : oo_01 tr) : MuI l yX1_likeliest wsX1_likeliest ({ frames := 2, cells := 0, slots := 0, locals := 47 } : Room) [.ref h, .int q] D (mW cI cZ h b1 b2 b3 u d tr (nI fn) (nI qn) sd th) [(cI, .int), (cZ, .boolean)] (mW cI cZ h b1 b2 b3 u d tr (nI fn) (nI qn) sd (0 : Int32)) (kvX1_likeliest u d tr fn qn q) := by
  intro sz
  refine oo_head (C := RX1) (cc := cX1_likeliest) (maxL := 2) (ret := (some .int)) (by decide) rfl rfl (Nat.le_of_ble_eq_true rfl) ?_
  intro p e s m below meth c hx hb hr hlocks hml hown hnm hts hpre ls hl
  have hl : lv_has ls 2 [(0, .ref h), (1, .int q)] := hl
  obtain ⟨rfl, hP, hK, hD0⟩ := hpre
  have hD := hD0.self (sz := s.heap.size)
  have hA := oo_A (mW cI cZ h b1 b2 b3 u d tr (nI fn) (nI qn) sd th) s
  have hS : va_S (va_A (mW cI cZ h b1 b2 b3 u d tr (nI fn) (nI qn) sd th) s.heap.size) s.heap s.heap [] := va_S.rf
  have hin : ∀ w ∈ wsX10, w ∈ wsX1_likeliest := fun w h => List.mem_cons_of_mem _ (List.mem_append_right _ h)
  refine lv_aload_n hx hb dX1_likeliest_0 rfl (lv_at hl 0 rfl) ?_
  refine lv_iconst (v := (0 : Int32)) hx hb dX1_likeliest_1 (by decide) ?_
  refine va_put (D := D) (ci := 1) (v := .int (0 : Int32)) (ty := .int) (C := RX1) (T := TX1) (N := 7) hx hb hts hin tyX1 tyX1_ok nmX1 hown hK hP hD hS 0 rfl rfl 6 (by decide) (hts (.fieldLink RX1 21 "OddsSamplingModel" "thrown" "I") (by decide +kernel)) (fun _ h9 => h9) rfl (by decide +kernel) rfl rfl (Nat.le_of_ble_eq_true rfl) dX1_likeliest_2 (fun H locs hP hD hS => ?_)
  have hP : va_P D vwCl (mW cI cZ h b1 b2 b3 u d tr (nI fn) (nI qn) sd (0 : Int32)) H := hP
  have hD : va_D _ (mW cI cZ h b1 b2 b3 u d tr (nI fn) (nI qn) sd (0 : Int32)) := hD
  refine lv_aload_n hx hb dX1_likeliest_5 rfl (lv_at hl 0 rfl) ?_
  refine lv_iload_n hx hb dX1_likeliest_6 rfl (lv_at hl 1 rfl) ?_
  refine ro_calli (va_runV (As := [.int q]) (rest := []) ⟨hx, hb, hml, hown, hts⟩ (kX1_isQuestion l D cI cZ h b1 b2 b3 u d tr fn qn sd (0 : Int32) q) (cwV 1 hts gX1_likeliest_X1_isQuestion rfl rfl rfl ok_X1_isQuestion ⟨Nat.le_of_ble_eq_true rfl, Nat.le_of_ble_eq_true rfl⟩) ⟨oo_blind, va_recv hK hP (ci := 1) (q0 := 0) rfl rfl, oo_ps hP hK [0, 1, 2, 3] rfl [0, 1] rfl⟩ rfl rfl hl.1 rfl (lv_room (Nat.le_of_ble_eq_true rfl)) dX1_likeliest_7 ⟨Nat.le_of_ble_eq_true rfl, Nat.le_of_ble_eq_true rfl⟩) hP hS (fun H locs hP hS => ?_)
  refine lv_if_eq (tgt := 21) hx hb dX1_likeliest_10 (by decide) (fun c_10 => ?_) (fun c_10 => ?_)
  · refine lv_iconst (v := (-1 : Int32)) hx hb dX1_likeliest_21 (by decide) ?_
    exact mu_reti hx hb hr hlocks hP hD hS (by unfold kvX1_likeliest; rw [if_pos c_10]) dX1_likeliest_22
  · obtain ⟨hq1, hq2⟩ := oo_isQ hqn c_10
    refine lv_aload_n hx hb dX1_likeliest_13 rfl (lv_at hl 0 rfl) ?_
    refine lv_iload_n hx hb dX1_likeliest_14 rfl (lv_at hl 1 rfl) ?_
    refine oo_topI (y := nI q.toNatClampNeg) hq1 ?_
    refine ro_calli (va_runV (As := [.int (nI q.toNatClampNeg)]) (rest := []) ⟨hx, hb, hml, hown, hts⟩ (kX1_best l D cI cZ h b1 b2 b3 u d tr fn qn sd (0 : Int32) q.toNatClampNeg hfn (by omega) h01) (cwV 1 hts gX1_likeliest_X1_best rfl rfl rfl ok_X1_best ⟨Nat.le_of_ble_eq_true rfl, Nat.le_of_ble_eq_true rfl⟩) ⟨oo_blind, va_recv hK hP (ci := 1) (q0 := 0) rfl rfl, oo_ps hP hK [0, 1, 2, 3] rfl [0, 1] rfl⟩ rfl rfl hl.1 rfl (lv_room (Nat.le_of_ble_eq_true rfl)) dX1_likeliest_15 ⟨Nat.le_of_ble_eq_true rfl, Nat.le_of_ble_eq_true rfl⟩) hP hS (fun H locs hP hS => ?_)
    refine lv_goto (tgt := 22) hx hb dX1_likeliest_18 (by decide) ?_
    exact mu_reti hx hb hr hlocks hP hD hS (by unfold kvX1_likeliest; rw [if_neg c_10]) dX1_likeliest_22
theorem ok_X1_weight : yX1_weight.cls = RX1 ∧ yX1_weight.cls ≠ "java/lang/invoke/MethodHandle" ∧ yX1_weight.cls ≠ "java/lang/invoke/VarHandle" ∧ (parseMethodDescriptor yX1_weight.desc).map (fun d => d.parameters.length) = some 1 := by decide +kernel
def kvX1_weight (u : Nat → Int32) (d : Nat → Int32) (tr : Nat → Int32) (fn : Nat) (qn : Nat) (q : Int32) : Int64 := if (kvX1_isQuestion qn q) = 0 then (if 0 ≤ (-2 : Int32) then (kvX1_weigh u d fn (-2 : Int32)) else (0 : Int64)) else (if 0 ≤ (kvX1_best u d tr fn q.toNatClampNeg) then (kvX1_weigh u d fn (kvX1_best u d tr fn q.toNatClampNeg)) else (0 : Int64))
set_option maxHeartbeats 4000000 in
set_option maxRecDepth 100000 in
theorem kX1_weight (l : Launch) (D : va_G) (cI : ClassId) (cZ : ClassId) (h b1 b2 b3 : Nat) (u d tr : Nat → Int32) (fn qn : Nat) (sd : Int64) (th : Int32) (q : Int32) (hfn : fn ≤ 12) (hqn : qn ≤ 40) (h01 : oo_01 tr) : MuL l yX1_weight wsX1_weight ({ frames := 2, cells := 0, slots := 0, locals := 47 } : Room) [.ref h, .int q] D (mW cI cZ h b1 b2 b3 u d tr (nI fn) (nI qn) sd th) [(cI, .int), (cZ, .boolean)] (mW cI cZ h b1 b2 b3 u d tr (nI fn) (nI qn) sd (0 : Int32)) (kvX1_weight u d tr fn qn q) := by
  intro sz
  refine oo_head (C := RX1) (cc := cX1_weight) (maxL := 3) (ret := (some .long)) (by decide) rfl rfl (Nat.le_of_ble_eq_true rfl) ?_
  intro p e s m below meth c hx hb hr hlocks hml hown hnm hts hpre ls hl
  have hl : lv_has ls 3 [(0, .ref h), (1, .int q)] := hl
  obtain ⟨rfl, hP, hK, hD0⟩ := hpre
  have hD := hD0.self (sz := s.heap.size)
  have hA := oo_A (mW cI cZ h b1 b2 b3 u d tr (nI fn) (nI qn) sd th) s
  have hS : va_S (va_A (mW cI cZ h b1 b2 b3 u d tr (nI fn) (nI qn) sd th) s.heap.size) s.heap s.heap [] := va_S.rf
  have hin : ∀ w ∈ wsX10, w ∈ wsX1_weight := fun w h => List.mem_cons_of_mem _ (List.mem_append_right _ h)
  refine lv_aload_n hx hb dX1_weight_0 rfl (lv_at hl 0 rfl) ?_
  refine lv_iconst (v := (0 : Int32)) hx hb dX1_weight_1 (by decide) ?_
  refine va_put (D := D) (ci := 1) (v := .int (0 : Int32)) (ty := .int) (C := RX1) (T := TX1) (N := 7) hx hb hts hin tyX1 tyX1_ok nmX1 hown hK hP hD hS 0 rfl rfl 6 (by decide) (hts (.fieldLink RX1 21 "OddsSamplingModel" "thrown" "I") (by decide +kernel)) (fun _ h9 => h9) rfl (by decide +kernel) rfl rfl (Nat.le_of_ble_eq_true rfl) dX1_weight_2 (fun H locs hP hD hS => ?_)
  have hP : va_P D vwCl (mW cI cZ h b1 b2 b3 u d tr (nI fn) (nI qn) sd (0 : Int32)) H := hP
  have hD : va_D _ (mW cI cZ h b1 b2 b3 u d tr (nI fn) (nI qn) sd (0 : Int32)) := hD
  refine lv_aload_n hx hb dX1_weight_5 rfl (lv_at hl 0 rfl) ?_
  refine lv_iload_n hx hb dX1_weight_6 rfl (lv_at hl 1 rfl) ?_
  refine ro_calli (va_runV (As := [.int q]) (rest := []) ⟨hx, hb, hml, hown, hts⟩ (kX1_isQuestion l D cI cZ h b1 b2 b3 u d tr fn qn sd (0 : Int32) q) (cwV 1 hts gX1_weight_X1_isQuestion rfl rfl rfl ok_X1_isQuestion ⟨Nat.le_of_ble_eq_true rfl, Nat.le_of_ble_eq_true rfl⟩) ⟨oo_blind, va_recv hK hP (ci := 1) (q0 := 0) rfl rfl, oo_ps hP hK [0, 1, 2, 3] rfl [0, 1] rfl⟩ rfl rfl hl.1 rfl (lv_room (Nat.le_of_ble_eq_true rfl)) dX1_weight_7 ⟨Nat.le_of_ble_eq_true rfl, Nat.le_of_ble_eq_true rfl⟩) hP hS (fun H locs hP hS => ?_)
  refine lv_if_eq (tgt := 21) hx hb dX1_weight_10 (by decide) (fun c_10 => ?_) (fun c_10 => ?_)
  · refine lv_bipush (v := (-2 : Int32)) hx hb dX1_weight_21 (by decide) ?_
    refine lv_istore_n (lv' := [(2, .int (-2 : Int32)), (0, .ref h), (1, .int q)]) hx hb dX1_weight_23 rfl hl (by decide) rfl (fun ls hl => ?_)
    refine lv_iload_n hx hb dX1_weight_24 rfl (lv_at hl 0 rfl) ?_
    refine lv_if_ge (tgt := 32) hx hb dX1_weight_25 (by decide) (fun c_25 => ?_) (fun c_25 => ?_)
    · refine lv_aload_n hx hb dX1_weight_32 rfl (lv_at hl 1 rfl) ?_
      refine lv_iload_n hx hb dX1_weight_33 rfl (lv_at hl 0 rfl) ?_
      refine ro_calll (va_runV (As := [.int (-2 : Int32)]) (rest := []) ⟨hx, hb, hml, hown, hts⟩ (kX1_weigh l D cI cZ h b1 b2 b3 u d tr fn qn sd (0 : Int32) (-2 : Int32) hfn) (cwV 1 hts gX1_weight_X1_weigh rfl rfl rfl ok_X1_weigh ⟨Nat.le_of_ble_eq_true rfl, Nat.le_of_ble_eq_true rfl⟩) ⟨oo_blind, va_recv hK hP (ci := 1) (q0 := 0) rfl rfl, oo_ps hP hK [0, 1, 2, 3] rfl [0, 1] rfl⟩ rfl rfl hl.1 rfl (lv_room (Nat.le_of_ble_eq_true rfl)) dX1_weight_34 ⟨Nat.le_of_ble_eq_true rfl, Nat.le_of_ble_eq_true rfl⟩) hP hS (fun H locs hP hS => ?_)
      exact mu_retl hx hb hr hlocks hP hD hS (by unfold kvX1_weight; rw [if_pos c_10, if_pos c_25]) dX1_weight_37
    · refine lv_lconst (v := (0 : Int64)) hx hb dX1_weight_28 (by decide) ?_
      refine lv_goto (tgt := 37) hx hb dX1_weight_29 (by decide) ?_
      exact mu_retl hx hb hr hlocks hP hD hS (by unfold kvX1_weight; rw [if_pos c_10, if_neg c_25]) dX1_weight_37
  · obtain ⟨hq1, hq2⟩ := oo_isQ hqn c_10
    refine lv_aload_n hx hb dX1_weight_13 rfl (lv_at hl 0 rfl) ?_
    refine lv_iload_n hx hb dX1_weight_14 rfl (lv_at hl 1 rfl) ?_
    refine oo_topI (y := nI q.toNatClampNeg) hq1 ?_
    refine ro_calli (va_runV (As := [.int (nI q.toNatClampNeg)]) (rest := []) ⟨hx, hb, hml, hown, hts⟩ (kX1_best l D cI cZ h b1 b2 b3 u d tr fn qn sd (0 : Int32) q.toNatClampNeg hfn (by omega) h01) (cwV 1 hts gX1_weight_X1_best rfl rfl rfl ok_X1_best ⟨Nat.le_of_ble_eq_true rfl, Nat.le_of_ble_eq_true rfl⟩) ⟨oo_blind, va_recv hK hP (ci := 1) (q0 := 0) rfl rfl, oo_ps hP hK [0, 1, 2, 3] rfl [0, 1] rfl⟩ rfl rfl hl.1 rfl (lv_room (Nat.le_of_ble_eq_true rfl)) dX1_weight_15 ⟨Nat.le_of_ble_eq_true rfl, Nat.le_of_ble_eq_true rfl⟩) hP hS (fun H locs hP hS => ?_)
    refine lv_goto (tgt := 23) hx hb dX1_weight_18 (by decide) ?_
    refine lv_istore_n (lv' := [(2, .int (kvX1_best u d tr fn q.toNatClampNeg)), (0, .ref h), (1, .int q)]) hx hb dX1_weight_23 rfl hl (by decide) rfl (fun ls hl => ?_)
    refine lv_iload_n hx hb dX1_weight_24 rfl (lv_at hl 0 rfl) ?_
    refine lv_if_ge (tgt := 32) hx hb dX1_weight_25 (by decide) (fun c_25 => ?_) (fun c_25 => ?_)
    · refine lv_aload_n hx hb dX1_weight_32 rfl (lv_at hl 1 rfl) ?_
      refine lv_iload_n hx hb dX1_weight_33 rfl (lv_at hl 0 rfl) ?_
      refine ro_calll (va_runV (As := [.int (kvX1_best u d tr fn q.toNatClampNeg)]) (rest := []) ⟨hx, hb, hml, hown, hts⟩ (kX1_weigh l D cI cZ h b1 b2 b3 u d tr fn qn sd (0 : Int32) (kvX1_best u d tr fn q.toNatClampNeg) hfn) (cwV 1 hts gX1_weight_X1_weigh rfl rfl rfl ok_X1_weigh ⟨Nat.le_of_ble_eq_true rfl, Nat.le_of_ble_eq_true rfl⟩) ⟨oo_blind, va_recv hK hP (ci := 1) (q0 := 0) rfl rfl, oo_ps hP hK [0, 1, 2, 3] rfl [0, 1] rfl⟩ rfl rfl hl.1 rfl (lv_room (Nat.le_of_ble_eq_true rfl)) dX1_weight_34 ⟨Nat.le_of_ble_eq_true rfl, Nat.le_of_ble_eq_true rfl⟩) hP hS (fun H locs hP hS => ?_)
      exact mu_retl hx hb hr hlocks hP hD hS (by unfold kvX1_weight; rw [if_neg c_10, if_pos c_25]) dX1_weight_37
    · refine lv_lconst (v := (0 : Int64)) hx hb dX1_weight_28 (by decide) ?_
      refine lv_goto (tgt := 37) hx hb dX1_weight_29 (by decide) ?_
      exact mu_retl hx hb hr hlocks hP hD hS (by unfold kvX1_weight; rw [if_neg c_10, if_neg c_25]) dX1_weight_37
def kl_mwc (tr : Nat → Int32) (q : Nat) : Nat → Int32
  | 0 => 0
  | n + 1 => if tr (4096 * q + n) = 0 then kl_mwc tr q n + 0 else kl_mwc tr q n + 1
theorem ok_X1_worlds : yX1_worlds.cls = RX1 ∧ yX1_worlds.cls ≠ "java/lang/invoke/MethodHandle" ∧ yX1_worlds.cls ≠ "java/lang/invoke/VarHandle" ∧ (parseMethodDescriptor yX1_worlds.desc).map (fun d => d.parameters.length) = some 1 := by decide +kernel
def kvX1_worlds (tr : Nat → Int32) (fn : Nat) (qn : Nat) (q : Int32) : Int32 := if (kvX1_isQuestion qn q) = 0 then (-1 : Int32) else (kl_mwc tr q.toNatClampNeg (2 ^ fn))
set_option maxHeartbeats 4000000 in
set_option maxRecDepth 100000 in
theorem kX1_worlds (l : Launch) (D : va_G) (cI : ClassId) (cZ : ClassId) (h b1 b2 b3 : Nat) (u d tr : Nat → Int32) (fn qn : Nat) (sd : Int64) (th : Int32) (q : Int32) (hfn : fn ≤ 12) (hqn : qn ≤ 40) (h01 : oo_01 tr) : MuI l yX1_worlds wsX1_worlds ({ frames := 1, cells := 0, slots := 0, locals := 22 } : Room) [.ref h, .int q] D (mW cI cZ h b1 b2 b3 u d tr (nI fn) (nI qn) sd th) [(cI, .int), (cZ, .boolean)] (mW cI cZ h b1 b2 b3 u d tr (nI fn) (nI qn) sd (0 : Int32)) (kvX1_worlds tr fn qn q) := by
  intro sz
  refine oo_head (C := RX1) (cc := cX1_worlds) (maxL := 4) (ret := (some .int)) (by decide) rfl rfl (Nat.le_of_ble_eq_true rfl) ?_
  intro p e s m below meth c hx hb hr hlocks hml hown hnm hts hpre ls hl
  have hl : lv_has ls 4 [(0, .ref h), (1, .int q)] := hl
  obtain ⟨rfl, hP, hK, hD0⟩ := hpre
  have hD := hD0.self (sz := s.heap.size)
  have hA := oo_A (mW cI cZ h b1 b2 b3 u d tr (nI fn) (nI qn) sd th) s
  have hS : va_S (va_A (mW cI cZ h b1 b2 b3 u d tr (nI fn) (nI qn) sd th) s.heap.size) s.heap s.heap [] := va_S.rf
  have hin : ∀ w ∈ wsX10, w ∈ wsX1_worlds := fun w h => List.mem_cons_of_mem _ (List.mem_append_right _ h)
  have h2n : 2 ^ fn ≤ 2 ^ 12 := Nat.pow_le_pow_right (by omega) hfn
  refine lv_aload_n hx hb dX1_worlds_0 rfl (lv_at hl 0 rfl) ?_
  refine lv_iconst (v := (0 : Int32)) hx hb dX1_worlds_1 (by decide) ?_
  refine va_put (D := D) (ci := 1) (v := .int (0 : Int32)) (ty := .int) (C := RX1) (T := TX1) (N := 7) hx hb hts hin tyX1 tyX1_ok nmX1 hown hK hP hD hS 0 rfl rfl 6 (by decide) (hts (.fieldLink RX1 21 "OddsSamplingModel" "thrown" "I") (by decide +kernel)) (fun _ h9 => h9) rfl (by decide +kernel) rfl rfl (Nat.le_of_ble_eq_true rfl) dX1_worlds_2 (fun H locs hP hD hS => ?_)
  have hP : va_P D vwCl (mW cI cZ h b1 b2 b3 u d tr (nI fn) (nI qn) sd (0 : Int32)) H := hP
  have hD : va_D _ (mW cI cZ h b1 b2 b3 u d tr (nI fn) (nI qn) sd (0 : Int32)) := hD
  refine lv_aload_n hx hb dX1_worlds_5 rfl (lv_at hl 0 rfl) ?_
  refine lv_iload_n hx hb dX1_worlds_6 rfl (lv_at hl 1 rfl) ?_
  refine ro_calli (va_runV (As := [.int q]) (rest := []) ⟨hx, hb, hml, hown, hts⟩ (kX1_isQuestion l D cI cZ h b1 b2 b3 u d tr fn qn sd (0 : Int32) q) (cwV 1 hts gX1_worlds_X1_isQuestion rfl rfl rfl ok_X1_isQuestion ⟨Nat.le_of_ble_eq_true rfl, Nat.le_of_ble_eq_true rfl⟩) ⟨oo_blind, va_recv hK hP (ci := 1) (q0 := 0) rfl rfl, oo_ps hP hK [0, 1, 2, 3] rfl [0, 1] rfl⟩ rfl rfl hl.1 rfl (lv_room (Nat.le_of_ble_eq_true rfl)) dX1_worlds_7 ⟨Nat.le_of_ble_eq_true rfl, Nat.le_of_ble_eq_true rfl⟩) hP hS (fun H locs hP hS => ?_)
  refine lv_if_ne (tgt := 15) hx hb dX1_worlds_10 (by decide) (fun c_10 => ?_) (fun c_10 => ?_)
  · obtain ⟨hq1, hq2⟩ := oo_isQ hqn c_10
    refine lv_iconst (v := (0 : Int32)) hx hb dX1_worlds_15 (by decide) ?_
    refine lv_istore_n (lv' := [(2, .int (0 : Int32)), (0, .ref h), (1, .int q)]) hx hb dX1_worlds_16 rfl hl (by decide) rfl (fun ls hl => ?_)
    refine lv_iconst (v := nI 0) hx hb dX1_worlds_17 (by decide) ?_
    refine lv_istore_n (lv' := [(3, .int (nI 0)), (2, .int (0 : Int32)), (0, .ref h), (1, .int q)]) hx hb dX1_worlds_18 rfl hl (by decide) rfl (fun ls hl => ?_)
    have hl : lv_has ls 4 [(0, .ref h), (1, .int q), (2, .int (0 : Int32)), (3, .int (nI 0))] := lv_sub hl [2, 3, 1, 0] rfl
    have hl := Eq.mp (congrArg (fun z9 => lv_has ls 4 [(0, .ref h), (1, .int q), (2, .int z9), (3, .int (nI 0))]) (show (0 : Int32) = kl_mwc tr q.toNatClampNeg 0 from (by first | (simp only [kl_mwc]; done) | (simp only [kl_mwc]; rw [if_neg c_10])))) hl
    refine oo_loop (N := (2 ^ fn)) (fun n H locs ls => va_P D vwCl (mW cI cZ h b1 b2 b3 u d tr (nI fn) (nI qn) sd (0 : Int32)) H ∧ va_D (va_A (mW cI cZ h b1 b2 b3 u d tr (nI fn) (nI qn) sd th) s.heap.size) (mW cI cZ h b1 b2 b3 u d tr (nI fn) (nI qn) sd (0 : Int32)) ∧ va_S (va_A (mW cI cZ h b1 b2 b3 u d tr (nI fn) (nI qn) sd th) s.heap.size) s.heap H locs ∧ lv_has ls 4 [(0, .ref h), (1, .int q), (2, .int (kl_mwc tr q.toNatClampNeg n)), (3, .int (nI n))]) ?_ ?_ 0 (Nat.zero_le _) ⟨hP, hD, hS, hl⟩
    · intro H locs ls hI
      obtain ⟨hP, hD, hS, hl⟩ := hI
      refine lv_iload_n hx hb dX1_worlds_19 rfl (lv_at hl 3 rfl) ?_
      refine lv_iconst (v := (1 : Int32)) hx hb dX1_worlds_20 (by decide) ?_
      refine lv_aload_n hx hb dX1_worlds_21 rfl (lv_at hl 0 rfl) ?_
      refine va_get (D := D) (ci := 1) (v := .int (nI fn)) (C := RX1) (T := TX1) (N := 7) hx hb hts hin hown hK hP 0 rfl rfl 2 (by decide) (hts (.fieldLink RX1 28 "OddsSamplingModel" "facts" "I") (by decide +kernel)) (fun _ h9 => h9) rfl dX1_worlds_22 ?_
      refine lv_ishl hx hb dX1_worlds_25 ?_
      refine oo_topI (y := nI (2 ^ fn)) (oo_shl1 fn (by omega)) ?_
      refine lv_icmp_ge (tgt := 52) hx hb dX1_worlds_26 (by decide) (fun c_26 => ?_) (fun c_26 => ?_)
      · refine lv_iload_n hx hb dX1_worlds_52 rfl (lv_at hl 2 rfl) ?_
        exact mu_reti hx hb hr hlocks hP hD hS (by unfold kvX1_worlds; rw [if_neg c_10]) dX1_worlds_53
      · exact absurd (nI_le (Nat.le_refl _) (by omega)) c_26
    · intro n hltn ihn H locs ls hI
      obtain ⟨hP, hD, hS, hl⟩ := hI
      refine lv_iload_n hx hb dX1_worlds_19 rfl (lv_at hl 3 rfl) ?_
      refine lv_iconst (v := (1 : Int32)) hx hb dX1_worlds_20 (by decide) ?_
      refine lv_aload_n hx hb dX1_worlds_21 rfl (lv_at hl 0 rfl) ?_
      refine va_get (D := D) (ci := 1) (v := .int (nI fn)) (C := RX1) (T := TX1) (N := 7) hx hb hts hin hown hK hP 0 rfl rfl 2 (by decide) (hts (.fieldLink RX1 28 "OddsSamplingModel" "facts" "I") (by decide +kernel)) (fun _ h9 => h9) rfl dX1_worlds_22 ?_
      refine lv_ishl hx hb dX1_worlds_25 ?_
      refine oo_topI (y := nI (2 ^ fn)) (oo_shl1 fn (by omega)) ?_
      refine lv_icmp_ge (tgt := 52) hx hb dX1_worlds_26 (by decide) (fun c_26 => ?_) (fun c_26 => ?_)
      · exact absurd c_26 (nI_ge hltn (by omega))
      · refine lv_iload_n hx hb dX1_worlds_29 rfl (lv_at hl 2 rfl) ?_
        refine lv_aload_n hx hb dX1_worlds_30 rfl (lv_at hl 0 rfl) ?_
        refine lv_iload_n hx hb dX1_worlds_31 rfl (lv_at hl 1 rfl) ?_
        refine oo_topI (y := nI q.toNatClampNeg) hq1 ?_
        refine lv_iload_n hx hb dX1_worlds_32 rfl (lv_at hl 3 rfl) ?_
        refine ro_calli (va_runV (As := [.int (nI q.toNatClampNeg), .int (nI n)]) (rest := [.int (kl_mwc tr q.toNatClampNeg n)]) ⟨hx, hb, hml, hown, hts⟩ (kX1_isTrue l D cI cZ h b1 b2 b3 u d tr fn qn sd (0 : Int32) q.toNatClampNeg n (by omega) (by omega) h01) (cwV 2 hts gX1_worlds_X1_isTrue rfl rfl rfl ok_X1_isTrue ⟨Nat.le_of_ble_eq_true rfl, Nat.le_of_ble_eq_true rfl⟩) ⟨oo_blind, va_recv hK hP (ci := 1) (q0 := 0) rfl rfl, oo_ps hP hK [0, 1, 2, 3] rfl [0, 1] rfl⟩ rfl rfl hl.1 rfl (lv_room (Nat.le_of_ble_eq_true rfl)) dX1_worlds_33 ⟨Nat.le_of_ble_eq_true rfl, Nat.le_of_ble_eq_true rfl⟩) hP hS (fun H locs hP hS => ?_)
        refine lv_if_eq (tgt := 43) hx hb dX1_worlds_36 (by decide) (fun c_36 => ?_) (fun c_36 => ?_)
        · refine lv_iconst (v := (0 : Int32)) hx hb dX1_worlds_43 (by decide) ?_
          refine lv_iadd hx hb dX1_worlds_44 ?_
          refine lv_istore_n (lv' := [(2, .int ((kl_mwc tr q.toNatClampNeg n) + (0 : Int32))), (0, .ref h), (1, .int q), (3, .int (nI n))]) hx hb dX1_worlds_45 rfl hl (by decide) rfl (fun ls hl => ?_)
          refine lv_iinc (v := nI (n + 1)) (lv' := [(3, .int (nI (n + 1))), (2, .int ((kl_mwc tr q.toNatClampNeg n) + (0 : Int32))), (0, .ref h), (1, .int q)]) hx hb dX1_worlds_46 hl (k := 3) rfl (oo_inc n 1) (by decide) rfl (fun ls hl => ?_)
          refine lv_goto (tgt := 19) hx hb dX1_worlds_49 (by decide) ?_
          have hl : lv_has ls 4 [(0, .ref h), (1, .int q), (2, .int ((kl_mwc tr q.toNatClampNeg n) + (0 : Int32))), (3, .int (nI (n + 1)))] := lv_sub hl [2, 3, 1, 0] rfl
          have hl := Eq.mp (congrArg (fun z9 => lv_has ls 4 [(0, .ref h), (1, .int q), (2, .int z9), (3, .int (nI (n + 1)))]) (show (kl_mwc tr q.toNatClampNeg n) + (0 : Int32) = kl_mwc tr q.toNatClampNeg (n + 1) from (by first | (simp only [kl_mwc]; done) | (simp only [kl_mwc]; rw [if_pos c_36])))) hl
          exact ihn _ _ _ ⟨hP, hD, hS, hl⟩
        · refine lv_iconst (v := (1 : Int32)) hx hb dX1_worlds_39 (by decide) ?_
          refine lv_goto (tgt := 44) hx hb dX1_worlds_40 (by decide) ?_
          refine lv_iadd hx hb dX1_worlds_44 ?_
          refine lv_istore_n (lv' := [(2, .int ((kl_mwc tr q.toNatClampNeg n) + (1 : Int32))), (0, .ref h), (1, .int q), (3, .int (nI n))]) hx hb dX1_worlds_45 rfl hl (by decide) rfl (fun ls hl => ?_)
          refine lv_iinc (v := nI (n + 1)) (lv' := [(3, .int (nI (n + 1))), (2, .int ((kl_mwc tr q.toNatClampNeg n) + (1 : Int32))), (0, .ref h), (1, .int q)]) hx hb dX1_worlds_46 hl (k := 3) rfl (oo_inc n 1) (by decide) rfl (fun ls hl => ?_)
          refine lv_goto (tgt := 19) hx hb dX1_worlds_49 (by decide) ?_
          have hl : lv_has ls 4 [(0, .ref h), (1, .int q), (2, .int ((kl_mwc tr q.toNatClampNeg n) + (1 : Int32))), (3, .int (nI (n + 1)))] := lv_sub hl [2, 3, 1, 0] rfl
          have hl := Eq.mp (congrArg (fun z9 => lv_has ls 4 [(0, .ref h), (1, .int q), (2, .int z9), (3, .int (nI (n + 1)))]) (show (kl_mwc tr q.toNatClampNeg n) + (1 : Int32) = kl_mwc tr q.toNatClampNeg (n + 1) from (by first | (simp only [kl_mwc]; done) | (simp only [kl_mwc]; rw [if_neg c_36])))) hl
          exact ihn _ _ _ ⟨hP, hD, hS, hl⟩
  · refine lv_iconst (v := (-1 : Int32)) hx hb dX1_worlds_13 (by decide) ?_
    exact mu_reti hx hb hr hlocks hP hD hS (by unfold kvX1_worlds; rw [if_pos c_10]) dX1_worlds_14
def kvX1_same (tr : Nat → Int32) (fn qn : Nat) (q r : Int32) : Int32 := if kvX1_isQuestion qn q = 0 then -1 else (if kvX1_isQuestion qn r = 0 then -1 else (if (∀ k : Nat, k < 2 ^ fn → tr (4096 * q.toNatClampNeg + k) = tr (4096 * r.toNatClampNeg + k)) then 1 else 0))
theorem ok_X1_same : yX1_same.cls = RX1 ∧ yX1_same.cls ≠ "java/lang/invoke/MethodHandle" ∧ yX1_same.cls ≠ "java/lang/invoke/VarHandle" ∧ (parseMethodDescriptor yX1_same.desc).map (fun d => d.parameters.length) = some 2 := by decide +kernel
set_option maxHeartbeats 4000000 in
set_option maxRecDepth 100000 in
theorem kX1_same (l : Launch) (D : va_G) (cI : ClassId) (cZ : ClassId) (h b1 b2 b3 : Nat) (u d tr : Nat → Int32) (fn qn : Nat) (sd : Int64) (th : Int32) (q : Int32) (r : Int32) (hfn : fn ≤ 12) (hqn : qn ≤ 40) (h01 : oo_01 tr) : MuI l yX1_same wsX1_same ({ frames := 1, cells := 0, slots := 0, locals := 22 } : Room) [.ref h, .int q, .int r] D (mW cI cZ h b1 b2 b3 u d tr (nI fn) (nI qn) sd th) [(cI, .int), (cZ, .boolean)] (mW cI cZ h b1 b2 b3 u d tr (nI fn) (nI qn) sd (0 : Int32)) (kvX1_same tr fn qn q r) := by
  intro sz
  refine oo_head (C := RX1) (cc := cX1_same) (maxL := 4) (ret := (some .int)) (by decide) rfl rfl (Nat.le_of_ble_eq_true rfl) ?_
  intro p e s m below meth c hx hb hr hlocks hml hown hnm hts hpre ls hl
  have hl : lv_has ls 4 [(0, .ref h), (1, .int q), (2, .int r)] := hl
  obtain ⟨rfl, hP, hK, hD0⟩ := hpre
  have hD := hD0.self (sz := s.heap.size)
  have hA := oo_A (mW cI cZ h b1 b2 b3 u d tr (nI fn) (nI qn) sd th) s
  have hS : va_S (va_A (mW cI cZ h b1 b2 b3 u d tr (nI fn) (nI qn) sd th) s.heap.size) s.heap s.heap [] := va_S.rf
  have hin : ∀ w ∈ wsX10, w ∈ wsX1_same := fun w h => List.mem_cons_of_mem _ (List.mem_append_right _ h)
  have h2n : 2 ^ fn ≤ 2 ^ 12 := Nat.pow_le_pow_right (by omega) hfn
  refine lv_aload_n hx hb dX1_same_0 rfl (lv_at hl 0 rfl) ?_
  refine lv_iconst (v := (0 : Int32)) hx hb dX1_same_1 (by decide) ?_
  refine va_put (D := D) (ci := 1) (v := .int (0 : Int32)) (ty := .int) (C := RX1) (T := TX1) (N := 7) hx hb hts hin tyX1 tyX1_ok nmX1 hown hK hP hD hS 0 rfl rfl 6 (by decide) (hts (.fieldLink RX1 21 "OddsSamplingModel" "thrown" "I") (by decide +kernel)) (fun _ h9 => h9) rfl (by decide +kernel) rfl rfl (Nat.le_of_ble_eq_true rfl) dX1_same_2 (fun H locs hP hD hS => ?_)
  have hP : va_P D vwCl (mW cI cZ h b1 b2 b3 u d tr (nI fn) (nI qn) sd (0 : Int32)) H := hP
  have hD : va_D _ (mW cI cZ h b1 b2 b3 u d tr (nI fn) (nI qn) sd (0 : Int32)) := hD
  refine lv_aload_n hx hb dX1_same_5 rfl (lv_at hl 0 rfl) ?_
  refine lv_iload_n hx hb dX1_same_6 rfl (lv_at hl 1 rfl) ?_
  refine ro_calli (va_runV (As := [.int q]) (rest := []) ⟨hx, hb, hml, hown, hts⟩ (kX1_isQuestion l D cI cZ h b1 b2 b3 u d tr fn qn sd (0 : Int32) q) (cwV 1 hts gX1_same_X1_isQuestion rfl rfl rfl ok_X1_isQuestion ⟨Nat.le_of_ble_eq_true rfl, Nat.le_of_ble_eq_true rfl⟩) ⟨oo_blind, va_recv hK hP (ci := 1) (q0 := 0) rfl rfl, oo_ps hP hK [0, 1, 2, 3] rfl [0, 1] rfl⟩ rfl rfl hl.1 rfl (lv_room (Nat.le_of_ble_eq_true rfl)) dX1_same_7 ⟨Nat.le_of_ble_eq_true rfl, Nat.le_of_ble_eq_true rfl⟩) hP hS (fun H locs hP hS => ?_)
  refine lv_if_eq (tgt := 21) hx hb dX1_same_10 (by decide) (fun c_10 => ?_) (fun c_10 => ?_)
  · refine lv_iconst (v := (-1 : Int32)) hx hb dX1_same_21 (by decide) ?_
    exact mu_reti hx hb hr hlocks hP hD hS (by unfold kvX1_same; rw [if_pos c_10]) dX1_same_22
  · refine lv_aload_n hx hb dX1_same_13 rfl (lv_at hl 0 rfl) ?_
    refine lv_iload_n hx hb dX1_same_14 rfl (lv_at hl 2 rfl) ?_
    refine ro_calli (va_runV (As := [.int r]) (rest := []) ⟨hx, hb, hml, hown, hts⟩ (kX1_isQuestion l D cI cZ h b1 b2 b3 u d tr fn qn sd (0 : Int32) r) (cwV 1 hts gX1_same_X1_isQuestion rfl rfl rfl ok_X1_isQuestion ⟨Nat.le_of_ble_eq_true rfl, Nat.le_of_ble_eq_true rfl⟩) ⟨oo_blind, va_recv hK hP (ci := 1) (q0 := 0) rfl rfl, oo_ps hP hK [0, 1, 2, 3] rfl [0, 1] rfl⟩ rfl rfl hl.1 rfl (lv_room (Nat.le_of_ble_eq_true rfl)) dX1_same_15 ⟨Nat.le_of_ble_eq_true rfl, Nat.le_of_ble_eq_true rfl⟩) hP hS (fun H locs hP hS => ?_)
    refine lv_if_ne (tgt := 23) hx hb dX1_same_18 (by decide) (fun c_18 => ?_) (fun c_18 => ?_)
    · obtain ⟨hq1, hq2⟩ := oo_isQ hqn c_10
      obtain ⟨hr1, hr2⟩ := oo_isQ hqn c_18
      refine lv_iconst (v := nI 0) hx hb dX1_same_23 (by decide) ?_
      refine lv_istore_n (lv' := [(3, .int (nI 0)), (0, .ref h), (1, .int q), (2, .int r)]) hx hb dX1_same_24 rfl hl (by decide) rfl (fun ls hl => ?_)
      have hl : lv_has ls 4 [(0, .ref h), (1, .int q), (2, .int r), (3, .int (nI 0))] := lv_sub hl [1, 2, 3, 0] rfl
      refine oo_loop (N := (2 ^ fn)) (fun n H locs ls => va_P D vwCl (mW cI cZ h b1 b2 b3 u d tr (nI fn) (nI qn) sd (0 : Int32)) H ∧ va_D (va_A (mW cI cZ h b1 b2 b3 u d tr (nI fn) (nI qn) sd th) s.heap.size) (mW cI cZ h b1 b2 b3 u d tr (nI fn) (nI qn) sd (0 : Int32)) ∧ va_S (va_A (mW cI cZ h b1 b2 b3 u d tr (nI fn) (nI qn) sd th) s.heap.size) s.heap H locs ∧ lv_has ls 4 [(0, .ref h), (1, .int q), (2, .int r), (3, .int (nI n))] ∧ ∀ k : Nat, k < n → tr (4096 * q.toNatClampNeg + k) = tr (4096 * r.toNatClampNeg + k)) ?_ ?_ 0 (Nat.zero_le _) ⟨hP, hD, hS, hl, lt_0⟩
      · intro H locs ls hI
        obtain ⟨hP, hD, hS, hl, hE⟩ := hI
        refine lv_iload_n hx hb dX1_same_25 rfl (lv_at hl 3 rfl) ?_
        refine lv_iconst (v := (1 : Int32)) hx hb dX1_same_26 (by decide) ?_
        refine lv_aload_n hx hb dX1_same_27 rfl (lv_at hl 0 rfl) ?_
        refine va_get (D := D) (ci := 1) (v := .int (nI fn)) (C := RX1) (T := TX1) (N := 7) hx hb hts hin hown hK hP 0 rfl rfl 2 (by decide) (hts (.fieldLink RX1 28 "OddsSamplingModel" "facts" "I") (by decide +kernel)) (fun _ h9 => h9) rfl dX1_same_28 ?_
        refine lv_ishl hx hb dX1_same_31 ?_
        refine oo_topI (y := nI (2 ^ fn)) (oo_shl1 fn (by omega)) ?_
        refine lv_icmp_ge (tgt := 58) hx hb dX1_same_32 (by decide) (fun c_32 => ?_) (fun c_32 => ?_)
        · refine lv_iconst (v := (1 : Int32)) hx hb dX1_same_58 (by decide) ?_
          exact mu_reti hx hb hr hlocks hP hD hS (by unfold kvX1_same; rw [if_neg c_10, if_neg c_18, if_pos hE]) dX1_same_59
        · exact absurd (nI_le (Nat.le_refl _) (by omega)) c_32
      · intro n hltn ihn H locs ls hI
        obtain ⟨hP, hD, hS, hl, hE⟩ := hI
        refine lv_iload_n hx hb dX1_same_25 rfl (lv_at hl 3 rfl) ?_
        refine lv_iconst (v := (1 : Int32)) hx hb dX1_same_26 (by decide) ?_
        refine lv_aload_n hx hb dX1_same_27 rfl (lv_at hl 0 rfl) ?_
        refine va_get (D := D) (ci := 1) (v := .int (nI fn)) (C := RX1) (T := TX1) (N := 7) hx hb hts hin hown hK hP 0 rfl rfl 2 (by decide) (hts (.fieldLink RX1 28 "OddsSamplingModel" "facts" "I") (by decide +kernel)) (fun _ h9 => h9) rfl dX1_same_28 ?_
        refine lv_ishl hx hb dX1_same_31 ?_
        refine oo_topI (y := nI (2 ^ fn)) (oo_shl1 fn (by omega)) ?_
        refine lv_icmp_ge (tgt := 58) hx hb dX1_same_32 (by decide) (fun c_32 => ?_) (fun c_32 => ?_)
        · exact absurd c_32 (nI_ge hltn (by omega))
        · refine lv_aload_n hx hb dX1_same_35 rfl (lv_at hl 0 rfl) ?_
          refine lv_iload_n hx hb dX1_same_36 rfl (lv_at hl 1 rfl) ?_
          refine oo_topI (y := nI q.toNatClampNeg) hq1 ?_
          refine lv_iload_n hx hb dX1_same_37 rfl (lv_at hl 3 rfl) ?_
          refine ro_calli (va_runV (As := [.int (nI q.toNatClampNeg), .int (nI n)]) (rest := []) ⟨hx, hb, hml, hown, hts⟩ (kX1_isTrue l D cI cZ h b1 b2 b3 u d tr fn qn sd (0 : Int32) q.toNatClampNeg n (by omega) (by omega) h01) (cwV 2 hts gX1_same_X1_isTrue rfl rfl rfl ok_X1_isTrue ⟨Nat.le_of_ble_eq_true rfl, Nat.le_of_ble_eq_true rfl⟩) ⟨oo_blind, va_recv hK hP (ci := 1) (q0 := 0) rfl rfl, oo_ps hP hK [0, 1, 2, 3] rfl [0, 1] rfl⟩ rfl rfl hl.1 rfl (lv_room (Nat.le_of_ble_eq_true rfl)) dX1_same_38 ⟨Nat.le_of_ble_eq_true rfl, Nat.le_of_ble_eq_true rfl⟩) hP hS (fun H locs hP hS => ?_)
          refine lv_aload_n hx hb dX1_same_41 rfl (lv_at hl 0 rfl) ?_
          refine lv_iload_n hx hb dX1_same_42 rfl (lv_at hl 2 rfl) ?_
          refine oo_topI (y := nI r.toNatClampNeg) hr1 ?_
          refine lv_iload_n hx hb dX1_same_43 rfl (lv_at hl 3 rfl) ?_
          refine ro_calli (va_runV (As := [.int (nI r.toNatClampNeg), .int (nI n)]) (rest := [.int (tr (4096 * q.toNatClampNeg + n))]) ⟨hx, hb, hml, hown, hts⟩ (kX1_isTrue l D cI cZ h b1 b2 b3 u d tr fn qn sd (0 : Int32) r.toNatClampNeg n (by omega) (by omega) h01) (cwV 2 hts gX1_same_X1_isTrue rfl rfl rfl ok_X1_isTrue ⟨Nat.le_of_ble_eq_true rfl, Nat.le_of_ble_eq_true rfl⟩) ⟨oo_blind, va_recv hK hP (ci := 1) (q0 := 0) rfl rfl, oo_ps hP hK [0, 1, 2, 3] rfl [0, 1] rfl⟩ rfl rfl hl.1 rfl (lv_room (Nat.le_of_ble_eq_true rfl)) dX1_same_44 ⟨Nat.le_of_ble_eq_true rfl, Nat.le_of_ble_eq_true rfl⟩) hP hS (fun H locs hP hS => ?_)
          refine lv_icmp_eq (tgt := 52) hx hb dX1_same_47 (by decide) (fun c_47 => ?_) (fun c_47 => ?_)
          · refine lv_iinc (v := nI (n + 1)) (lv' := [(3, .int (nI (n + 1))), (0, .ref h), (1, .int q), (2, .int r)]) hx hb dX1_same_52 hl (k := 3) rfl (oo_inc n 1) (by decide) rfl (fun ls hl => ?_)
            refine lv_goto (tgt := 25) hx hb dX1_same_55 (by decide) ?_
            have hl : lv_has ls 4 [(0, .ref h), (1, .int q), (2, .int r), (3, .int (nI (n + 1)))] := lv_sub hl [1, 2, 3, 0] rfl
            exact ihn _ _ _ ⟨hP, hD, hS, hl, lt_s hE c_47⟩
          · refine lv_iconst (v := (0 : Int32)) hx hb dX1_same_50 (by decide) ?_
            exact mu_reti hx hb hr hlocks hP hD hS (by unfold kvX1_same; rw [if_neg c_10, if_neg c_18, if_neg (fun h => c_47 (h n hltn))]) dX1_same_51
    · refine lv_iconst (v := (-1 : Int32)) hx hb dX1_same_21 (by decide) ?_
      exact mu_reti hx hb hr hlocks hP hD hS (by unfold kvX1_same; rw [if_neg c_10, if_pos c_18]) dX1_same_22
def kl_mr (sd : Int64) : Int64 := sd >>> ((nI 17).toInt64 &&& 63)
def kl_mdw (u d : Nat → Int32) (sd : Int64) : Nat → Int32
  | 0 => 0
  | n + 1 => if 0 ≤ lg_cmp (kl_mr (kl_sds sd (n + 1)) - kl_mr (kl_sds sd (n + 1)) / (d n).toInt64 * (d n).toInt64) ((u n).toInt64) then kl_mdw u d sd n else kl_mdw u d sd n ||| nI (2 ^ n)
theorem oo_orN (a b : Nat) : nI a ||| nI b = nI (a ||| b) := by
  apply Int32.toBitVec_inj.1
  show BitVec.ofNat 32 a ||| BitVec.ofNat 32 b = BitVec.ofNat 32 (a ||| b)
  apply BitVec.eq_of_getLsbD_eq
  intro i hi
  simp [hi]
theorem kl_mdw_lt (u d : Nat → Int32) (sd : Int64) : ∀ n, ∃ j, j < 2 ^ n ∧ kl_mdw u d sd n = nI j
  | 0 => ⟨0, by decide, rfl⟩
  | n + 1 => by
    obtain ⟨j, h1, h2⟩ := kl_mdw_lt u d sd n
    have h3 : 2 ^ n < 2 ^ (n + 1) := Nat.pow_lt_pow_right (by omega) (by omega)
    simp only [kl_mdw]
    split
    · exact ⟨j, by omega, h2⟩
    · exact ⟨j ||| 2 ^ n, Nat.or_lt_two_pow (by omega) h3, by rw [h2, oo_orN]⟩
theorem ok_X1_draw : yX1_draw.cls = RX1 ∧ yX1_draw.cls ≠ "java/lang/invoke/MethodHandle" ∧ yX1_draw.cls ≠ "java/lang/invoke/VarHandle" ∧ (parseMethodDescriptor yX1_draw.desc).map (fun d => d.parameters.length) = some 0 := by decide +kernel
def kvX1_draw (u : Nat → Int32) (d : Nat → Int32) (fn : Nat) (sd : Int64) : Int32 := kl_mdw u d sd fn
set_option maxHeartbeats 4000000 in
set_option maxRecDepth 100000 in
theorem kX1_draw (l : Launch) (D : va_G) (cI : ClassId) (cZ : ClassId) (h b1 b2 b3 : Nat) (u d tr : Nat → Int32) (fn qn : Nat) (sd : Int64) (th : Int32)  (hfn : fn ≤ 12) (hdz : ∀ j : Nat, j < fn → ¬ (d j).toInt64 = 0) : MuI l yX1_draw wsX1_draw ({ frames := 0, cells := 0, slots := 0, locals := 0 } : Room) [.ref h] D (mW cI cZ h b1 b2 b3 u d tr (nI fn) (nI qn) sd th) [(cI, .int), (cZ, .boolean)] (mW cI cZ h b1 b2 b3 u d tr (nI fn) (nI qn) (kl_sds sd fn) th) (kvX1_draw u d fn sd) := by
  intro sz
  refine oo_head (C := RX1) (cc := cX1_draw) (maxL := 5) (ret := (some .int)) (by decide) rfl rfl (Nat.le_of_ble_eq_true rfl) ?_
  intro p e s m below meth c hx hb hr hlocks hml hown hnm hts hpre ls hl
  have hl : lv_has ls 5 [(0, .ref h)] := hl
  obtain ⟨rfl, hP, hK, hD0⟩ := hpre
  have hD := hD0.self (sz := s.heap.size)
  have hA := oo_A (mW cI cZ h b1 b2 b3 u d tr (nI fn) (nI qn) sd th) s
  have hS : va_S (va_A (mW cI cZ h b1 b2 b3 u d tr (nI fn) (nI qn) sd th) s.heap.size) s.heap s.heap [] := va_S.rf
  have hin : ∀ w ∈ wsX10, w ∈ wsX1_draw := fun w h => List.mem_cons_of_mem _ (List.mem_append_right _ h)
  refine lv_iconst (v := (0 : Int32)) hx hb dX1_draw_0 (by decide) ?_
  refine lv_istore_n (lv' := [(1, .int (0 : Int32)), (0, .ref h)]) hx hb dX1_draw_1 rfl hl (by decide) rfl (fun ls hl => ?_)
  refine lv_iconst (v := nI 0) hx hb dX1_draw_2 (by decide) ?_
  refine lv_istore_n (lv' := [(2, .int (nI 0)), (1, .int (0 : Int32)), (0, .ref h)]) hx hb dX1_draw_3 rfl hl (by decide) rfl (fun ls hl => ?_)
  have hl : lv_has ls 5 [(0, .ref h), (1, .int (0 : Int32)), (2, .int (nI 0))] := lv_sub hl [2, 1, 0] rfl
  have hl := Eq.mp (congrArg (fun z9 => lv_has ls 5 [(0, .ref h), (1, .int z9), (2, .int (nI 0))]) (show (0 : Int32) = kl_mdw u d sd 0 from (by simp only [kl_mdw]))) hl
  have hP := Eq.mp (congrArg (fun z9 => va_P D vwCl (mW cI cZ h b1 b2 b3 u d tr (nI fn) (nI qn) z9 th) s.heap) (show sd = kl_sds sd 0 from rfl)) hP
  have hP : va_P D vwCl (mW cI cZ h b1 b2 b3 u d tr (nI fn) (nI qn) (kl_sds sd 0) th) s.heap := hP
  have hD : va_D _ (mW cI cZ h b1 b2 b3 u d tr (nI fn) (nI qn) (kl_sds sd 0) th) := oo_Dre hD (oo_fc (oo_fc (oo_fc (oo_fc rfl))))
  refine oo_loop (N := fn) (fun n H locs ls => va_P D vwCl (mW cI cZ h b1 b2 b3 u d tr (nI fn) (nI qn) (kl_sds sd n) th) H ∧ va_D (va_A (mW cI cZ h b1 b2 b3 u d tr (nI fn) (nI qn) sd th) s.heap.size) (mW cI cZ h b1 b2 b3 u d tr (nI fn) (nI qn) (kl_sds sd n) th) ∧ va_S (va_A (mW cI cZ h b1 b2 b3 u d tr (nI fn) (nI qn) sd th) s.heap.size) s.heap H locs ∧ lv_has ls 5 [(0, .ref h), (1, .int (kl_mdw u d sd n)), (2, .int (nI n))]) ?_ ?_ 0 (Nat.zero_le _) ⟨hP, hD, hS, hl⟩
  · intro H locs ls hI
    obtain ⟨hP, hD, hS, hl⟩ := hI
    refine lv_iload_n hx hb dX1_draw_4 rfl (lv_at hl 2 rfl) ?_
    refine lv_aload_n hx hb dX1_draw_5 rfl (lv_at hl 0 rfl) ?_
    refine va_get (D := D) (ci := 1) (v := .int (nI fn)) (C := RX1) (T := TX1) (N := 7) hx hb hts hin hown hK hP 0 rfl rfl 2 (by decide) (hts (.fieldLink RX1 28 "OddsSamplingModel" "facts" "I") (by decide +kernel)) (fun _ h9 => h9) rfl dX1_draw_6 ?_
    refine lv_icmp_ge (tgt := 72) hx hb dX1_draw_9 (by decide) (fun c_9 => ?_) (fun c_9 => ?_)
    · refine lv_iload_n hx hb dX1_draw_72 rfl (lv_at hl 1 rfl) ?_
      exact mu_reti hx hb hr hlocks hP hD hS (by unfold kvX1_draw; rfl) dX1_draw_73
    · exact absurd (nI_le (Nat.le_refl _) (by omega)) c_9
  · intro n hltn ihn H locs ls hI
    obtain ⟨hP, hD, hS, hl⟩ := hI
    refine lv_iload_n hx hb dX1_draw_4 rfl (lv_at hl 2 rfl) ?_
    refine lv_aload_n hx hb dX1_draw_5 rfl (lv_at hl 0 rfl) ?_
    refine va_get (D := D) (ci := 1) (v := .int (nI fn)) (C := RX1) (T := TX1) (N := 7) hx hb hts hin hown hK hP 0 rfl rfl 2 (by decide) (hts (.fieldLink RX1 28 "OddsSamplingModel" "facts" "I") (by decide +kernel)) (fun _ h9 => h9) rfl dX1_draw_6 ?_
    refine lv_icmp_ge (tgt := 72) hx hb dX1_draw_9 (by decide) (fun c_9 => ?_) (fun c_9 => ?_)
    · exact absurd c_9 (nI_ge hltn (by omega))
    · refine lv_aload_n hx hb dX1_draw_12 rfl (lv_at hl 0 rfl) ?_
      refine lv_aload_n hx hb dX1_draw_13 rfl (lv_at hl 0 rfl) ?_
      refine va_get (D := D) (ci := 1) (v := .long (kl_sds sd n)) (C := RX1) (T := TX1) (N := 7) hx hb hts hin hown hK hP 0 rfl rfl 5 (by decide) (hts (.fieldLink RX1 80 "OddsSamplingModel" "seed" "J") (by decide +kernel)) (fun _ h9 => h9) rfl dX1_draw_14 ?_
      refine lv_ldc2 hx hb hown (hts (.constantLong RX1 84 (25214903917)) (by decide +kernel)) dX1_draw_17 ?_
      refine lv_lmul hx hb dX1_draw_20 ?_
      refine lv_ldc2 hx hb hown (hts (.constantLong RX1 86 (11)) (by decide +kernel)) dX1_draw_21 ?_
      refine lv_ladd hx hb dX1_draw_24 ?_
      refine lv_ldc2 hx hb hown (hts (.constantLong RX1 88 (281474976710655)) (by decide +kernel)) dX1_draw_25 ?_
      refine lv_land hx hb dX1_draw_28 ?_
      refine oo_topL (y := kl_sds sd (n + 1)) rfl ?_
      refine va_put (D := D) (ci := 1) (v := .long (kl_sds sd (n + 1))) (ty := .long) (C := RX1) (T := TX1) (N := 7) hx hb hts hin tyX1 tyX1_ok nmX1 hown hK hP hD hS 0 rfl rfl 5 (by decide) (hts (.fieldLink RX1 80 "OddsSamplingModel" "seed" "J") (by decide +kernel)) (fun _ h9 => h9) rfl (by decide +kernel) rfl rfl (Nat.le_of_ble_eq_true rfl) dX1_draw_29 (fun H locs hP hD hS => ?_)
      have hP : va_P D vwCl (mW cI cZ h b1 b2 b3 u d tr (nI fn) (nI qn) (kl_sds sd (n + 1)) th) H := hP
      have hD : va_D _ (mW cI cZ h b1 b2 b3 u d tr (nI fn) (nI qn) (kl_sds sd (n + 1)) th) := hD
      refine lv_aload_n hx hb dX1_draw_32 rfl (lv_at hl 0 rfl) ?_
      refine va_get (D := D) (ci := 1) (v := .long (kl_sds sd (n + 1))) (C := RX1) (T := TX1) (N := 7) hx hb hts hin hown hK hP 0 rfl rfl 5 (by decide) (hts (.fieldLink RX1 80 "OddsSamplingModel" "seed" "J") (by decide +kernel)) (fun _ h9 => h9) rfl dX1_draw_33 ?_
      refine lv_bipush (v := nI 17) hx hb dX1_draw_36 (by decide) ?_
      refine lv_lshr hx hb dX1_draw_38 rfl ?_
      refine oo_topL (y := kl_mr (kl_sds sd (n + 1))) rfl ?_
      refine lv_lstore_n (lv' := [(3, .long (kl_mr (kl_sds sd (n + 1)))), (0, .ref h), (1, .int (kl_mdw u d sd n)), (2, .int (nI n))]) hx hb dX1_draw_39 rfl hl (by decide) rfl (fun ls hl => ?_)
      refine lv_lload_n hx hb dX1_draw_40 rfl (lv_at hl 0 rfl) ?_
      refine lv_aload_n hx hb dX1_draw_41 rfl (lv_at hl 1 rfl) ?_
      refine va_get (D := D) (ci := 1) (v := .ref b2) (C := RX1) (T := TX1) (N := 7) hx hb hts hin hown hK hP 0 rfl rfl 1 (by decide) (hts (.fieldLink RX1 13 "OddsSamplingModel" "downs" "[I") (by decide +kernel)) (fun _ h9 => h9) rfl dX1_draw_42 ?_
      refine lv_iload_n hx hb dX1_draw_45 rfl (lv_at hl 3 rfl) ?_
      refine va_iald hx hb hK hP 2 0 rfl rfl (vp_in_nI (by omega) (by omega)) dX1_draw_46 ?_
      refine oo_topI (y := d n) (congrArg d (nI_clamp (by omega))) ?_
      refine lv_i2l hx hb dX1_draw_47 rfl ?_
      refine lv_lrem hx hb dX1_draw_48 (hdz n hltn) ?_
      refine lv_aload_n hx hb dX1_draw_49 rfl (lv_at hl 1 rfl) ?_
      refine va_get (D := D) (ci := 1) (v := .ref b1) (C := RX1) (T := TX1) (N := 7) hx hb hts hin hown hK hP 0 rfl rfl 0 (by decide) (hts (.fieldLink RX1 7 "OddsSamplingModel" "ups" "[I") (by decide +kernel)) (fun _ h9 => h9) rfl dX1_draw_50 ?_
      refine lv_iload_n hx hb dX1_draw_53 rfl (lv_at hl 3 rfl) ?_
      refine va_iald hx hb hK hP 1 0 rfl rfl (vp_in_nI (by omega) (by omega)) dX1_draw_54 ?_
      refine oo_topI (y := u n) (congrArg u (nI_clamp (by omega))) ?_
      refine lv_i2l hx hb dX1_draw_55 rfl ?_
      refine W.lcmp hx hb dX1_draw_56 ?_
      refine lv_if_ge (tgt := 66) hx hb dX1_draw_57 (by decide) (fun c_57 => ?_) (fun c_57 => ?_)
      · refine lv_iinc (v := nI (n + 1)) (lv' := [(2, .int (nI (n + 1))), (3, .long (kl_mr (kl_sds sd (n + 1)))), (0, .ref h), (1, .int (kl_mdw u d sd n))]) hx hb dX1_draw_66 hl (k := 3) rfl (oo_inc n 1) (by decide) rfl (fun ls hl => ?_)
        refine lv_goto (tgt := 4) hx hb dX1_draw_69 (by decide) ?_
        have hl : lv_has ls 5 [(0, .ref h), (1, .int (kl_mdw u d sd n)), (2, .int (nI (n + 1)))] := lv_sub hl [2, 3, 0] rfl
        have hl := Eq.mp (congrArg (fun z9 => lv_has ls 5 [(0, .ref h), (1, .int z9), (2, .int (nI (n + 1)))]) (show kl_mdw u d sd n = kl_mdw u d sd (n + 1) from (by first | (simp only [kl_mdw]; done) | (simp only [kl_mdw]; rw [if_pos c_57])))) hl
        exact ihn _ _ _ ⟨hP, hD, hS, hl⟩
      · refine lv_iload_n hx hb dX1_draw_60 rfl (lv_at hl 2 rfl) ?_
        refine lv_iconst (v := (1 : Int32)) hx hb dX1_draw_61 (by decide) ?_
        refine lv_iload_n hx hb dX1_draw_62 rfl (lv_at hl 3 rfl) ?_
        refine lv_ishl hx hb dX1_draw_63 ?_
        refine oo_topI (y := nI (2 ^ n)) (oo_shl1 n (by omega)) ?_
        refine lv_ior hx hb dX1_draw_64 ?_
        refine lv_istore_n (lv' := [(1, .int ((kl_mdw u d sd n) ||| (nI (2 ^ n)))), (3, .long (kl_mr (kl_sds sd (n + 1)))), (0, .ref h), (2, .int (nI n))]) hx hb dX1_draw_65 rfl hl (by decide) rfl (fun ls hl => ?_)
        refine lv_iinc (v := nI (n + 1)) (lv' := [(2, .int (nI (n + 1))), (1, .int ((kl_mdw u d sd n) ||| (nI (2 ^ n)))), (3, .long (kl_mr (kl_sds sd (n + 1)))), (0, .ref h)]) hx hb dX1_draw_66 hl (k := 3) rfl (oo_inc n 1) (by decide) rfl (fun ls hl => ?_)
        refine lv_goto (tgt := 4) hx hb dX1_draw_69 (by decide) ?_
        have hl : lv_has ls 5 [(0, .ref h), (1, .int ((kl_mdw u d sd n) ||| (nI (2 ^ n)))), (2, .int (nI (n + 1)))] := lv_sub hl [3, 1, 0] rfl
        have hl := Eq.mp (congrArg (fun z9 => lv_has ls 5 [(0, .ref h), (1, .int z9), (2, .int (nI (n + 1)))]) (show (kl_mdw u d sd n) ||| (nI (2 ^ n)) = kl_mdw u d sd (n + 1) from (by first | (simp only [kl_mdw]; done) | (simp only [kl_mdw]; rw [if_neg c_57])))) hl
        exact ihn _ _ _ ⟨hP, hD, hS, hl⟩
def kl_msC (u d tr : Nat → Int32) (fn q : Nat) (sd : Int64) : Nat → Int32
  | 0 => 0
  | n + 1 => if tr (4096 * q + (kvX1_draw u d fn (kl_samS sd fn n)).toNatClampNeg) = 0 then kl_msC u d tr fn q sd n + 0 else kl_msC u d tr fn q sd n + 1
theorem oo_dr {fn : Nat} (hfn : fn ≤ 12) (u d : Nat → Int32) (sd : Int64) : kvX1_draw u d fn sd = nI (kvX1_draw u d fn sd).toNatClampNeg ∧ (kvX1_draw u d fn sd).toNatClampNeg < 4096 := by
  have h2 : 2 ^ fn ≤ 2 ^ 12 := Nat.pow_le_pow_right (by omega) hfn
  obtain ⟨j, h1, e⟩ := kl_mdw_lt u d sd fn
  show kl_mdw u d sd fn = _ ∧ (kl_mdw u d sd fn).toNatClampNeg < 4096
  unfold kvX1_draw
  rw [e, nI_clamp (by omega)]
  exact ⟨rfl, by omega⟩
theorem ok_X1_sample : yX1_sample.cls = RX1 ∧ yX1_sample.cls ≠ "java/lang/invoke/MethodHandle" ∧ yX1_sample.cls ≠ "java/lang/invoke/VarHandle" ∧ (parseMethodDescriptor yX1_sample.desc).map (fun d => d.parameters.length) = some 3 := by decide +kernel
def kvX1_sample (u : Nat → Int32) (d : Nat → Int32) (tr : Nat → Int32) (fn : Nat) (qn : Nat) (q : Int32) (sd0 : Int64) (ws : Int32) : Int32 := if (kvX1_isQuestion qn q) = 0 then (-1 : Int32) else (if ws < 0 then (-1 : Int32) else (if ws ≤ (nI 200) then (kl_msC u d tr fn q.toNatClampNeg (sd0 &&& (281474976710655 : Int64)) ws.toNatClampNeg) else (-1 : Int32)))
def kvX1_sample_sd (fn : Nat) (qn : Nat) (sd : Int64) (q : Int32) (sd0 : Int64) (ws : Int32) : Int64 := if (kvX1_isQuestion qn q) = 0 then sd else (if ws < 0 then sd else (if ws ≤ (nI 200) then (kl_samS (sd0 &&& (281474976710655 : Int64)) fn ws.toNatClampNeg) else sd))
set_option maxHeartbeats 4000000 in
set_option maxRecDepth 100000 in
theorem kX1_sample (l : Launch) (D : va_G) (cI : ClassId) (cZ : ClassId) (h b1 b2 b3 : Nat) (u d tr : Nat → Int32) (fn qn : Nat) (sd : Int64) (th : Int32) (q : Int32) (sd0 : Int64) (ws : Int32) (hfn : fn ≤ 12) (hqn : qn ≤ 40) (h01 : oo_01 tr) (hdz : ∀ j : Nat, j < fn → ¬ (d j).toInt64 = 0) : MuI l yX1_sample wsX1_sample ({ frames := 1, cells := 0, slots := 0, locals := 24 } : Room) [.ref h, .int q, .long sd0, .int ws] D (mW cI cZ h b1 b2 b3 u d tr (nI fn) (nI qn) sd th) [(cI, .int), (cZ, .boolean)] (mW cI cZ h b1 b2 b3 u d tr (nI fn) (nI qn) (kvX1_sample_sd fn qn sd q sd0 ws) (0 : Int32)) (kvX1_sample u d tr fn qn q sd0 ws) := by
  intro sz
  refine oo_head (C := RX1) (cc := cX1_sample) (maxL := 7) (ret := (some .int)) (by decide) rfl rfl (Nat.le_of_ble_eq_true rfl) ?_
  intro p e s m below meth c hx hb hr hlocks hml hown hnm hts hpre ls hl
  have hl : lv_has ls 7 [(0, .ref h), (1, .int q), (2, .long sd0), (4, .int ws)] := hl
  obtain ⟨rfl, hP, hK, hD0⟩ := hpre
  have hD := hD0.self (sz := s.heap.size)
  have hA := oo_A (mW cI cZ h b1 b2 b3 u d tr (nI fn) (nI qn) sd th) s
  have hS : va_S (va_A (mW cI cZ h b1 b2 b3 u d tr (nI fn) (nI qn) sd th) s.heap.size) s.heap s.heap [] := va_S.rf
  have hin : ∀ w ∈ wsX10, w ∈ wsX1_sample := fun w h => List.mem_cons_of_mem _ (List.mem_append_right _ h)
  refine lv_aload_n hx hb dX1_sample_0 rfl (lv_at hl 0 rfl) ?_
  refine lv_iconst (v := (0 : Int32)) hx hb dX1_sample_1 (by decide) ?_
  refine va_put (D := D) (ci := 1) (v := .int (0 : Int32)) (ty := .int) (C := RX1) (T := TX1) (N := 7) hx hb hts hin tyX1 tyX1_ok nmX1 hown hK hP hD hS 0 rfl rfl 6 (by decide) (hts (.fieldLink RX1 21 "OddsSamplingModel" "thrown" "I") (by decide +kernel)) (fun _ h9 => h9) rfl (by decide +kernel) rfl rfl (Nat.le_of_ble_eq_true rfl) dX1_sample_2 (fun H locs hP hD hS => ?_)
  have hP : va_P D vwCl (mW cI cZ h b1 b2 b3 u d tr (nI fn) (nI qn) sd (0 : Int32)) H := hP
  have hD : va_D _ (mW cI cZ h b1 b2 b3 u d tr (nI fn) (nI qn) sd (0 : Int32)) := hD
  refine lv_aload_n hx hb dX1_sample_5 rfl (lv_at hl 0 rfl) ?_
  refine lv_iload_n hx hb dX1_sample_6 rfl (lv_at hl 1 rfl) ?_
  refine ro_calli (va_runV (As := [.int q]) (rest := []) ⟨hx, hb, hml, hown, hts⟩ (kX1_isQuestion l D cI cZ h b1 b2 b3 u d tr fn qn sd (0 : Int32) q) (cwV 1 hts gX1_sample_X1_isQuestion rfl rfl rfl ok_X1_isQuestion ⟨Nat.le_of_ble_eq_true rfl, Nat.le_of_ble_eq_true rfl⟩) ⟨oo_blind, va_recv hK hP (ci := 1) (q0 := 0) rfl rfl, oo_ps hP hK [0, 1, 2, 3] rfl [0, 1] rfl⟩ rfl rfl hl.1 rfl (lv_room (Nat.le_of_ble_eq_true rfl)) dX1_sample_7 ⟨Nat.le_of_ble_eq_true rfl, Nat.le_of_ble_eq_true rfl⟩) hP hS (fun H locs hP hS => ?_)
  refine lv_if_eq (tgt := 26) hx hb dX1_sample_10 (by decide) (fun c_10 => ?_) (fun c_10 => ?_)
  · refine lv_iconst (v := (-1 : Int32)) hx hb dX1_sample_26 (by decide) ?_
    have hP := Eq.mp (congrArg (fun z9 => va_P D vwCl (mW cI cZ h b1 b2 b3 u d tr (nI fn) (nI qn) z9 (0 : Int32)) H) (show sd = kvX1_sample_sd fn qn sd q sd0 ws from (by unfold kvX1_sample_sd; rw [if_pos c_10]))) hP
    have hP : va_P D vwCl (mW cI cZ h b1 b2 b3 u d tr (nI fn) (nI qn) (kvX1_sample_sd fn qn sd q sd0 ws) (0 : Int32)) H := hP
    have hD : va_D _ (mW cI cZ h b1 b2 b3 u d tr (nI fn) (nI qn) (kvX1_sample_sd fn qn sd q sd0 ws) (0 : Int32)) := oo_Dre hD (oo_fc (oo_fc (oo_fc (oo_fc rfl))))
    exact mu_reti hx hb hr hlocks hP hD hS (by unfold kvX1_sample; rw [if_pos c_10]) dX1_sample_27
  · refine lv_iload hx hb dX1_sample_13 (lv_at hl 3 rfl) ?_
    refine lv_if_lt (tgt := 26) hx hb dX1_sample_15 (by decide) (fun c_15 => ?_) (fun c_15 => ?_)
    · refine lv_iconst (v := (-1 : Int32)) hx hb dX1_sample_26 (by decide) ?_
      have hP := Eq.mp (congrArg (fun z9 => va_P D vwCl (mW cI cZ h b1 b2 b3 u d tr (nI fn) (nI qn) z9 (0 : Int32)) H) (show sd = kvX1_sample_sd fn qn sd q sd0 ws from (by unfold kvX1_sample_sd; rw [if_neg c_10, if_pos c_15]))) hP
      have hP : va_P D vwCl (mW cI cZ h b1 b2 b3 u d tr (nI fn) (nI qn) (kvX1_sample_sd fn qn sd q sd0 ws) (0 : Int32)) H := hP
      have hD : va_D _ (mW cI cZ h b1 b2 b3 u d tr (nI fn) (nI qn) (kvX1_sample_sd fn qn sd q sd0 ws) (0 : Int32)) := oo_Dre hD (oo_fc (oo_fc (oo_fc (oo_fc rfl))))
      exact mu_reti hx hb hr hlocks hP hD hS (by unfold kvX1_sample; rw [if_neg c_10, if_pos c_15]) dX1_sample_27
    · refine lv_iload hx hb dX1_sample_18 (lv_at hl 3 rfl) ?_
      refine lv_sipush (v := nI 200) hx hb dX1_sample_20 (by decide) ?_
      refine lv_icmp_le (tgt := 28) hx hb dX1_sample_23 (by decide) (fun c_23 => ?_) (fun c_23 => ?_)
      · refine lv_aload_n hx hb dX1_sample_28 rfl (lv_at hl 0 rfl) ?_
        refine lv_lload_n hx hb dX1_sample_29 rfl (lv_at hl 2 rfl) ?_
        refine lv_ldc2 hx hb hown (hts (.constantLong RX1 88 (281474976710655)) (by decide +kernel)) dX1_sample_30 ?_
        refine lv_land hx hb dX1_sample_33 ?_
        refine va_put (D := D) (ci := 1) (v := .long (sd0 &&& (281474976710655 : Int64))) (ty := .long) (C := RX1) (T := TX1) (N := 7) hx hb hts hin tyX1 tyX1_ok nmX1 hown hK hP hD hS 0 rfl rfl 5 (by decide) (hts (.fieldLink RX1 80 "OddsSamplingModel" "seed" "J") (by decide +kernel)) (fun _ h9 => h9) rfl (by decide +kernel) rfl rfl (Nat.le_of_ble_eq_true rfl) dX1_sample_34 (fun H locs hP hD hS => ?_)
        have hP : va_P D vwCl (mW cI cZ h b1 b2 b3 u d tr (nI fn) (nI qn) (sd0 &&& (281474976710655 : Int64)) (0 : Int32)) H := hP
        have hD : va_D _ (mW cI cZ h b1 b2 b3 u d tr (nI fn) (nI qn) (sd0 &&& (281474976710655 : Int64)) (0 : Int32)) := hD
        obtain ⟨hq1, hq2⟩ := oo_isQ hqn c_10
        have hwn : ws.toNatClampNeg ≤ 200 := oo_cntL (by omega) c_15 c_23
        refine lv_iconst (v := (0 : Int32)) hx hb dX1_sample_37 (by decide) ?_
        refine lv_istore (lv' := [(5, .int (0 : Int32)), (0, .ref h), (1, .int q), (2, .long sd0), (4, .int ws)]) hx hb dX1_sample_38 hl (by decide) rfl (fun ls hl => ?_)
        refine lv_iconst (v := nI 0) hx hb dX1_sample_40 (by decide) ?_
        refine lv_istore (lv' := [(6, .int (nI 0)), (5, .int (0 : Int32)), (0, .ref h), (1, .int q), (2, .long sd0), (4, .int ws)]) hx hb dX1_sample_41 hl (by decide) rfl (fun ls hl => ?_)
        have hl : lv_has ls 7 [(0, .ref h), (1, .int q), (4, .int ws), (5, .int (0 : Int32)), (6, .int (nI 0))] := lv_sub hl [2, 3, 5, 1, 0] rfl
        have hl := Eq.mp (congrArg (fun z9 => lv_has ls 7 [(0, .ref h), (1, .int q), (4, .int ws), (5, .int z9), (6, .int (nI 0))]) (show (0 : Int32) = kl_msC u d tr fn q.toNatClampNeg (sd0 &&& (281474976710655 : Int64)) 0 from (by first | (simp only [kl_samS, kl_msC]; done) | (simp only [kl_samS, kl_msC]; rw [if_neg c_10, if_neg c_15, if_pos c_23])))) hl
        have hP := Eq.mp (congrArg (fun z9 => va_P D vwCl (mW cI cZ h b1 b2 b3 u d tr (nI fn) (nI qn) z9 (0 : Int32)) H) (show sd0 &&& (281474976710655 : Int64) = kl_samS (sd0 &&& (281474976710655 : Int64)) fn 0 from rfl)) hP
        have hP : va_P D vwCl (mW cI cZ h b1 b2 b3 u d tr (nI fn) (nI qn) (kl_samS (sd0 &&& (281474976710655 : Int64)) fn 0) (0 : Int32)) H := hP
        have hD : va_D _ (mW cI cZ h b1 b2 b3 u d tr (nI fn) (nI qn) (kl_samS (sd0 &&& (281474976710655 : Int64)) fn 0) (0 : Int32)) := oo_Dre hD (oo_fc (oo_fc (oo_fc (oo_fc rfl))))
        refine oo_loop (N := ws.toNatClampNeg) (fun n H locs ls => va_P D vwCl (mW cI cZ h b1 b2 b3 u d tr (nI fn) (nI qn) (kl_samS (sd0 &&& (281474976710655 : Int64)) fn n) (0 : Int32)) H ∧ va_D (va_A (mW cI cZ h b1 b2 b3 u d tr (nI fn) (nI qn) sd th) s.heap.size) (mW cI cZ h b1 b2 b3 u d tr (nI fn) (nI qn) (kl_samS (sd0 &&& (281474976710655 : Int64)) fn n) (0 : Int32)) ∧ va_S (va_A (mW cI cZ h b1 b2 b3 u d tr (nI fn) (nI qn) sd th) s.heap.size) s.heap H locs ∧ lv_has ls 7 [(0, .ref h), (1, .int q), (4, .int ws), (5, .int (kl_msC u d tr fn q.toNatClampNeg (sd0 &&& (281474976710655 : Int64)) n)), (6, .int (nI n))]) ?_ ?_ 0 (Nat.zero_le _) ⟨hP, hD, hS, hl⟩
        · intro H locs ls hI
          obtain ⟨hP, hD, hS, hl⟩ := hI
          refine lv_iload hx hb dX1_sample_43 (lv_at hl 4 rfl) ?_
          refine lv_iload hx hb dX1_sample_45 (lv_at hl 2 rfl) ?_
          refine oo_topI (y := nI ws.toNatClampNeg) (oo_cnt c_15) ?_
          refine lv_icmp_ge (tgt := 78) hx hb dX1_sample_47 (by decide) (fun c_47 => ?_) (fun c_47 => ?_)
          · refine lv_iload hx hb dX1_sample_78 (lv_at hl 3 rfl) ?_
            have hP := Eq.mp (congrArg (fun z9 => va_P D vwCl (mW cI cZ h b1 b2 b3 u d tr (nI fn) (nI qn) z9 (0 : Int32)) H) (show kl_samS (sd0 &&& (281474976710655 : Int64)) fn ws.toNatClampNeg = kvX1_sample_sd fn qn sd q sd0 ws from (by unfold kvX1_sample_sd; rw [if_neg c_10, if_neg c_15, if_pos c_23]))) hP
            have hP : va_P D vwCl (mW cI cZ h b1 b2 b3 u d tr (nI fn) (nI qn) (kvX1_sample_sd fn qn sd q sd0 ws) (0 : Int32)) H := hP
            have hD : va_D _ (mW cI cZ h b1 b2 b3 u d tr (nI fn) (nI qn) (kvX1_sample_sd fn qn sd q sd0 ws) (0 : Int32)) := oo_Dre hD (oo_fc (oo_fc (oo_fc (oo_fc rfl))))
            exact mu_reti hx hb hr hlocks hP hD hS (by unfold kvX1_sample; rw [if_neg c_10, if_neg c_15, if_pos c_23]) dX1_sample_80
          · exact absurd (nI_le (Nat.le_refl _) (by omega)) c_47
        · intro n hltn ihn H locs ls hI
          obtain ⟨hP, hD, hS, hl⟩ := hI
          refine lv_iload hx hb dX1_sample_43 (lv_at hl 4 rfl) ?_
          refine lv_iload hx hb dX1_sample_45 (lv_at hl 2 rfl) ?_
          refine oo_topI (y := nI ws.toNatClampNeg) (oo_cnt c_15) ?_
          refine lv_icmp_ge (tgt := 78) hx hb dX1_sample_47 (by decide) (fun c_47 => ?_) (fun c_47 => ?_)
          · exact absurd c_47 (nI_ge hltn (by omega))
          · refine lv_iload hx hb dX1_sample_50 (lv_at hl 3 rfl) ?_
            refine lv_aload_n hx hb dX1_sample_52 rfl (lv_at hl 0 rfl) ?_
            refine lv_iload_n hx hb dX1_sample_53 rfl (lv_at hl 1 rfl) ?_
            refine oo_topI (y := nI q.toNatClampNeg) hq1 ?_
            refine lv_aload_n hx hb dX1_sample_54 rfl (lv_at hl 0 rfl) ?_
            refine mu_calli (va_runV (As := []) (rest := [.int (nI q.toNatClampNeg), .ref h, .int (kl_msC u d tr fn q.toNatClampNeg (sd0 &&& (281474976710655 : Int64)) n)]) ⟨hx, hb, hml, hown, hts⟩ (kX1_draw l D cI cZ h b1 b2 b3 u d tr fn qn (kl_samS (sd0 &&& (281474976710655 : Int64)) fn n) (0 : Int32) hfn hdz _) (cwV 0 hts gX1_sample_X1_draw rfl rfl rfl ok_X1_draw ⟨Nat.le_of_ble_eq_true rfl, Nat.le_of_ble_eq_true rfl⟩) ⟨oo_blindM, va_recv hK hP (ci := 1) (q0 := 0) rfl rfl, oo_psM hP hD hK [0, 1, 2, 3] rfl rfl [0, 1] rfl⟩ rfl rfl hl.1 rfl (lv_room (Nat.le_of_ble_eq_true rfl)) dX1_sample_55 ⟨Nat.le_of_ble_eq_true rfl, Nat.le_of_ble_eq_true rfl⟩) hP hD hS hA [0, 1, 2, 3] rfl (oo_fc (oo_fc (oo_fc (oo_fc rfl)))) (fun H locs hP hD hS => ?_)
            have hP : va_P D vwCl (mW cI cZ h b1 b2 b3 u d tr (nI fn) (nI qn) (kl_sds (kl_samS (sd0 &&& (281474976710655 : Int64)) fn n) fn) (0 : Int32)) H := hP
            have hD : va_D _ (mW cI cZ h b1 b2 b3 u d tr (nI fn) (nI qn) (kl_sds (kl_samS (sd0 &&& (281474976710655 : Int64)) fn n) fn) (0 : Int32)) := hD
            refine oo_topI (y := nI (kvX1_draw u d fn (kl_samS (sd0 &&& (281474976710655 : Int64)) fn n)).toNatClampNeg) (oo_dr hfn _ _ _).1 ?_
            refine ro_calli (va_runV (As := [.int (nI q.toNatClampNeg), .int (nI (kvX1_draw u d fn (kl_samS (sd0 &&& (281474976710655 : Int64)) fn n)).toNatClampNeg)]) (rest := [.int (kl_msC u d tr fn q.toNatClampNeg (sd0 &&& (281474976710655 : Int64)) n)]) ⟨hx, hb, hml, hown, hts⟩ (kX1_isTrue l D cI cZ h b1 b2 b3 u d tr fn qn (kl_sds (kl_samS (sd0 &&& (281474976710655 : Int64)) fn n) fn) (0 : Int32) q.toNatClampNeg ((kvX1_draw u d fn (kl_samS (sd0 &&& (281474976710655 : Int64)) fn n)).toNatClampNeg) (by omega) (oo_dr hfn _ _ _).2 h01) (cwV 2 hts gX1_sample_X1_isTrue rfl rfl rfl ok_X1_isTrue ⟨Nat.le_of_ble_eq_true rfl, Nat.le_of_ble_eq_true rfl⟩) ⟨oo_blind, va_recv hK hP (ci := 1) (q0 := 0) rfl rfl, oo_ps hP hK [0, 1, 2, 3] rfl [0, 1] rfl⟩ rfl rfl hl.1 rfl (lv_room (Nat.le_of_ble_eq_true rfl)) dX1_sample_58 ⟨Nat.le_of_ble_eq_true rfl, Nat.le_of_ble_eq_true rfl⟩) hP hS (fun H locs hP hS => ?_)
            refine lv_if_eq (tgt := 68) hx hb dX1_sample_61 (by decide) (fun c_61 => ?_) (fun c_61 => ?_)
            · refine lv_iconst (v := (0 : Int32)) hx hb dX1_sample_68 (by decide) ?_
              refine lv_iadd hx hb dX1_sample_69 ?_
              refine lv_istore (lv' := [(5, .int ((kl_msC u d tr fn q.toNatClampNeg (sd0 &&& (281474976710655 : Int64)) n) + (0 : Int32))), (0, .ref h), (1, .int q), (4, .int ws), (6, .int (nI n))]) hx hb dX1_sample_70 hl (by decide) rfl (fun ls hl => ?_)
              refine lv_iinc (v := nI (n + 1)) (lv' := [(6, .int (nI (n + 1))), (5, .int ((kl_msC u d tr fn q.toNatClampNeg (sd0 &&& (281474976710655 : Int64)) n) + (0 : Int32))), (0, .ref h), (1, .int q), (4, .int ws)]) hx hb dX1_sample_72 hl (k := 4) rfl (oo_inc n 1) (by decide) rfl (fun ls hl => ?_)
              refine lv_goto (tgt := 43) hx hb dX1_sample_75 (by decide) ?_
              have hl : lv_has ls 7 [(0, .ref h), (1, .int q), (4, .int ws), (5, .int ((kl_msC u d tr fn q.toNatClampNeg (sd0 &&& (281474976710655 : Int64)) n) + (0 : Int32))), (6, .int (nI (n + 1)))] := lv_sub hl [2, 3, 4, 1, 0] rfl
              have hl := Eq.mp (congrArg (fun z9 => lv_has ls 7 [(0, .ref h), (1, .int q), (4, .int ws), (5, .int z9), (6, .int (nI (n + 1)))]) (show (kl_msC u d tr fn q.toNatClampNeg (sd0 &&& (281474976710655 : Int64)) n) + (0 : Int32) = kl_msC u d tr fn q.toNatClampNeg (sd0 &&& (281474976710655 : Int64)) (n + 1) from (by first | (simp only [kl_samS, kl_msC]; done) | (simp only [kl_samS, kl_msC]; rw [if_pos c_61])))) hl
              have hP := Eq.mp (congrArg (fun z9 => va_P D vwCl (mW cI cZ h b1 b2 b3 u d tr (nI fn) (nI qn) z9 (0 : Int32)) H) (show kl_sds (kl_samS (sd0 &&& (281474976710655 : Int64)) fn n) fn = kl_samS (sd0 &&& (281474976710655 : Int64)) fn (n + 1) from rfl)) hP
              have hP : va_P D vwCl (mW cI cZ h b1 b2 b3 u d tr (nI fn) (nI qn) (kl_samS (sd0 &&& (281474976710655 : Int64)) fn (n + 1)) (0 : Int32)) H := hP
              have hD : va_D _ (mW cI cZ h b1 b2 b3 u d tr (nI fn) (nI qn) (kl_samS (sd0 &&& (281474976710655 : Int64)) fn (n + 1)) (0 : Int32)) := oo_Dre hD (oo_fc (oo_fc (oo_fc (oo_fc rfl))))
              exact ihn _ _ _ ⟨hP, hD, hS, hl⟩
            · refine lv_iconst (v := (1 : Int32)) hx hb dX1_sample_64 (by decide) ?_
              refine lv_goto (tgt := 69) hx hb dX1_sample_65 (by decide) ?_
              refine lv_iadd hx hb dX1_sample_69 ?_
              refine lv_istore (lv' := [(5, .int ((kl_msC u d tr fn q.toNatClampNeg (sd0 &&& (281474976710655 : Int64)) n) + (1 : Int32))), (0, .ref h), (1, .int q), (4, .int ws), (6, .int (nI n))]) hx hb dX1_sample_70 hl (by decide) rfl (fun ls hl => ?_)
              refine lv_iinc (v := nI (n + 1)) (lv' := [(6, .int (nI (n + 1))), (5, .int ((kl_msC u d tr fn q.toNatClampNeg (sd0 &&& (281474976710655 : Int64)) n) + (1 : Int32))), (0, .ref h), (1, .int q), (4, .int ws)]) hx hb dX1_sample_72 hl (k := 4) rfl (oo_inc n 1) (by decide) rfl (fun ls hl => ?_)
              refine lv_goto (tgt := 43) hx hb dX1_sample_75 (by decide) ?_
              have hl : lv_has ls 7 [(0, .ref h), (1, .int q), (4, .int ws), (5, .int ((kl_msC u d tr fn q.toNatClampNeg (sd0 &&& (281474976710655 : Int64)) n) + (1 : Int32))), (6, .int (nI (n + 1)))] := lv_sub hl [2, 3, 4, 1, 0] rfl
              have hl := Eq.mp (congrArg (fun z9 => lv_has ls 7 [(0, .ref h), (1, .int q), (4, .int ws), (5, .int z9), (6, .int (nI (n + 1)))]) (show (kl_msC u d tr fn q.toNatClampNeg (sd0 &&& (281474976710655 : Int64)) n) + (1 : Int32) = kl_msC u d tr fn q.toNatClampNeg (sd0 &&& (281474976710655 : Int64)) (n + 1) from (by first | (simp only [kl_samS, kl_msC]; done) | (simp only [kl_samS, kl_msC]; rw [if_neg c_61])))) hl
              have hP := Eq.mp (congrArg (fun z9 => va_P D vwCl (mW cI cZ h b1 b2 b3 u d tr (nI fn) (nI qn) z9 (0 : Int32)) H) (show kl_sds (kl_samS (sd0 &&& (281474976710655 : Int64)) fn n) fn = kl_samS (sd0 &&& (281474976710655 : Int64)) fn (n + 1) from rfl)) hP
              have hP : va_P D vwCl (mW cI cZ h b1 b2 b3 u d tr (nI fn) (nI qn) (kl_samS (sd0 &&& (281474976710655 : Int64)) fn (n + 1)) (0 : Int32)) H := hP
              have hD : va_D _ (mW cI cZ h b1 b2 b3 u d tr (nI fn) (nI qn) (kl_samS (sd0 &&& (281474976710655 : Int64)) fn (n + 1)) (0 : Int32)) := oo_Dre hD (oo_fc (oo_fc (oo_fc (oo_fc rfl))))
              exact ihn _ _ _ ⟨hP, hD, hS, hl⟩
      · refine lv_iconst (v := (-1 : Int32)) hx hb dX1_sample_26 (by decide) ?_
        have hP := Eq.mp (congrArg (fun z9 => va_P D vwCl (mW cI cZ h b1 b2 b3 u d tr (nI fn) (nI qn) z9 (0 : Int32)) H) (show sd = kvX1_sample_sd fn qn sd q sd0 ws from (by unfold kvX1_sample_sd; rw [if_neg c_10, if_neg c_15, if_neg c_23]))) hP
        have hP : va_P D vwCl (mW cI cZ h b1 b2 b3 u d tr (nI fn) (nI qn) (kvX1_sample_sd fn qn sd q sd0 ws) (0 : Int32)) H := hP
        have hD : va_D _ (mW cI cZ h b1 b2 b3 u d tr (nI fn) (nI qn) (kvX1_sample_sd fn qn sd q sd0 ws) (0 : Int32)) := oo_Dre hD (oo_fc (oo_fc (oo_fc (oo_fc rfl))))
        exact mu_reti hx hb hr hlocks hP hD hS (by unfold kvX1_sample; rw [if_neg c_10, if_neg c_15, if_neg c_23]) dX1_sample_27
theorem ok_X1_seed : yX1_seed.cls = RX1 ∧ yX1_seed.cls ≠ "java/lang/invoke/MethodHandle" ∧ yX1_seed.cls ≠ "java/lang/invoke/VarHandle" ∧ (parseMethodDescriptor yX1_seed.desc).map (fun d => d.parameters.length) = some 0 := by decide +kernel
def kvX1_seed (sd : Int64) : Int64 := sd
set_option maxHeartbeats 4000000 in
set_option maxRecDepth 100000 in
theorem kX1_seed (l : Launch) (D : va_G) (cI : ClassId) (cZ : ClassId) (h b1 b2 b3 : Nat) (u d tr : Nat → Int32) (fn qn : Nat) (sd : Int64) (th : Int32)  : MuL l yX1_seed wsX1_seed ({ frames := 0, cells := 0, slots := 0, locals := 0 } : Room) [.ref h] D (mW cI cZ h b1 b2 b3 u d tr (nI fn) (nI qn) sd th) [(cI, .int), (cZ, .boolean)] (mW cI cZ h b1 b2 b3 u d tr (nI fn) (nI qn) sd (0 : Int32)) (kvX1_seed sd) := by
  intro sz
  refine oo_head (C := RX1) (cc := cX1_seed) (maxL := 1) (ret := (some .long)) (by decide) rfl rfl (Nat.le_of_ble_eq_true rfl) ?_
  intro p e s m below meth c hx hb hr hlocks hml hown hnm hts hpre ls hl
  have hl : lv_has ls 1 [(0, .ref h)] := hl
  obtain ⟨rfl, hP, hK, hD0⟩ := hpre
  have hD := hD0.self (sz := s.heap.size)
  have hA := oo_A (mW cI cZ h b1 b2 b3 u d tr (nI fn) (nI qn) sd th) s
  have hS : va_S (va_A (mW cI cZ h b1 b2 b3 u d tr (nI fn) (nI qn) sd th) s.heap.size) s.heap s.heap [] := va_S.rf
  have hin : ∀ w ∈ wsX10, w ∈ wsX1_seed := fun w h => List.mem_cons_of_mem _ (List.mem_append_right _ h)
  refine lv_aload_n hx hb dX1_seed_0 rfl (lv_at hl 0 rfl) ?_
  refine lv_iconst (v := (0 : Int32)) hx hb dX1_seed_1 (by decide) ?_
  refine va_put (D := D) (ci := 1) (v := .int (0 : Int32)) (ty := .int) (C := RX1) (T := TX1) (N := 7) hx hb hts hin tyX1 tyX1_ok nmX1 hown hK hP hD hS 0 rfl rfl 6 (by decide) (hts (.fieldLink RX1 21 "OddsSamplingModel" "thrown" "I") (by decide +kernel)) (fun _ h9 => h9) rfl (by decide +kernel) rfl rfl (Nat.le_of_ble_eq_true rfl) dX1_seed_2 (fun H locs hP hD hS => ?_)
  have hP : va_P D vwCl (mW cI cZ h b1 b2 b3 u d tr (nI fn) (nI qn) sd (0 : Int32)) H := hP
  have hD : va_D _ (mW cI cZ h b1 b2 b3 u d tr (nI fn) (nI qn) sd (0 : Int32)) := hD
  refine lv_aload_n hx hb dX1_seed_5 rfl (lv_at hl 0 rfl) ?_
  refine va_get (D := D) (ci := 1) (v := .long sd) (C := RX1) (T := TX1) (N := 7) hx hb hts hin hown hK hP 0 rfl rfl 5 (by decide) (hts (.fieldLink RX1 80 "OddsSamplingModel" "seed" "J") (by decide +kernel)) (fun _ h9 => h9) rfl dX1_seed_6 ?_
  exact mu_retl hx hb hr hlocks hP hD hS (by unfold kvX1_seed; rfl) dX1_seed_9
theorem ok_X1_questions : yX1_questions.cls = RX1 ∧ yX1_questions.cls ≠ "java/lang/invoke/MethodHandle" ∧ yX1_questions.cls ≠ "java/lang/invoke/VarHandle" ∧ (parseMethodDescriptor yX1_questions.desc).map (fun d => d.parameters.length) = some 0 := by decide +kernel
def kvX1_questions (qn : Nat) : Int32 := nI qn
set_option maxHeartbeats 4000000 in
set_option maxRecDepth 100000 in
theorem kX1_questions (l : Launch) (D : va_G) (cI : ClassId) (cZ : ClassId) (h b1 b2 b3 : Nat) (u d tr : Nat → Int32) (fn qn : Nat) (sd : Int64) (th : Int32)  : MuI l yX1_questions wsX1_questions ({ frames := 0, cells := 0, slots := 0, locals := 0 } : Room) [.ref h] D (mW cI cZ h b1 b2 b3 u d tr (nI fn) (nI qn) sd th) [(cI, .int), (cZ, .boolean)] (mW cI cZ h b1 b2 b3 u d tr (nI fn) (nI qn) sd (0 : Int32)) (kvX1_questions qn) := by
  intro sz
  refine oo_head (C := RX1) (cc := cX1_questions) (maxL := 1) (ret := (some .int)) (by decide) rfl rfl (Nat.le_of_ble_eq_true rfl) ?_
  intro p e s m below meth c hx hb hr hlocks hml hown hnm hts hpre ls hl
  have hl : lv_has ls 1 [(0, .ref h)] := hl
  obtain ⟨rfl, hP, hK, hD0⟩ := hpre
  have hD := hD0.self (sz := s.heap.size)
  have hA := oo_A (mW cI cZ h b1 b2 b3 u d tr (nI fn) (nI qn) sd th) s
  have hS : va_S (va_A (mW cI cZ h b1 b2 b3 u d tr (nI fn) (nI qn) sd th) s.heap.size) s.heap s.heap [] := va_S.rf
  have hin : ∀ w ∈ wsX10, w ∈ wsX1_questions := fun w h => List.mem_cons_of_mem _ (List.mem_append_right _ h)
  refine lv_aload_n hx hb dX1_questions_0 rfl (lv_at hl 0 rfl) ?_
  refine lv_iconst (v := (0 : Int32)) hx hb dX1_questions_1 (by decide) ?_
  refine va_put (D := D) (ci := 1) (v := .int (0 : Int32)) (ty := .int) (C := RX1) (T := TX1) (N := 7) hx hb hts hin tyX1 tyX1_ok nmX1 hown hK hP hD hS 0 rfl rfl 6 (by decide) (hts (.fieldLink RX1 21 "OddsSamplingModel" "thrown" "I") (by decide +kernel)) (fun _ h9 => h9) rfl (by decide +kernel) rfl rfl (Nat.le_of_ble_eq_true rfl) dX1_questions_2 (fun H locs hP hD hS => ?_)
  have hP : va_P D vwCl (mW cI cZ h b1 b2 b3 u d tr (nI fn) (nI qn) sd (0 : Int32)) H := hP
  have hD : va_D _ (mW cI cZ h b1 b2 b3 u d tr (nI fn) (nI qn) sd (0 : Int32)) := hD
  refine lv_aload_n hx hb dX1_questions_5 rfl (lv_at hl 0 rfl) ?_
  refine va_get (D := D) (ci := 1) (v := .int (nI qn)) (C := RX1) (T := TX1) (N := 7) hx hb hts hin hown hK hP 0 rfl rfl 4 (by decide) (hts (.fieldLink RX1 25 "OddsSamplingModel" "questions" "I") (by decide +kernel)) (fun _ h9 => h9) rfl dX1_questions_6 ?_
  exact mu_reti hx hb hr hlocks hP hD hS (by unfold kvX1_questions; rfl) dX1_questions_9
theorem ok_X1_real : yX1_real.cls = RX1 ∧ yX1_real.cls ≠ "java/lang/invoke/MethodHandle" ∧ yX1_real.cls ≠ "java/lang/invoke/VarHandle" ∧ (parseMethodDescriptor yX1_real.desc).map (fun d => d.parameters.length) = some 1 := by decide +kernel
def kvX1_real (u : Nat → Int32) (d : Nat → Int32) (tr : Nat → Int32) (fn : Nat) (qn : Nat) (q : Int32) : UInt64 := if (kvX1_isQuestion qn q) = 0 then (13830554455654793216 : UInt64) else (FP.ddiv (FP.l2d (kvX1_part (kvX1_sum u d tr fn q.toNatClampNeg) (kvX1_all d fn) (0 : Int32))) (FP.l2d (kvX1_part (kvX1_sum u d tr fn q.toNatClampNeg) (kvX1_all d fn) (1 : Int32))))
set_option maxHeartbeats 4000000 in
set_option maxRecDepth 100000 in
theorem kX1_real (l : Launch) (D : va_G) (cI : ClassId) (cZ : ClassId) (h b1 b2 b3 : Nat) (u d tr : Nat → Int32) (fn qn : Nat) (sd : Int64) (th : Int32) (q : Int32) (hfn : fn ≤ 12) (hqn : qn ≤ 40) (h01 : oo_01 tr) (hN : ¬ kvX1_isQuestion qn q = 0 → (kl_gcd (kl_abs (kvX1_sum u d tr fn q.toNatClampNeg)) (kvX1_all d fn) 100).2 = 0) (hz : ¬ kvX1_isQuestion qn q = 0 → ¬ (kl_gcd (kl_abs (kvX1_sum u d tr fn q.toNatClampNeg)) (kvX1_all d fn) 100).1 = 0) (hnan : ¬ kvX1_isQuestion qn q = 0 → vf_n64 (FP.ddiv (FP.l2d (kvX1_part (kvX1_sum u d tr fn q.toNatClampNeg) (kvX1_all d fn) 0)) (FP.l2d (kvX1_part (kvX1_sum u d tr fn q.toNatClampNeg) (kvX1_all d fn) 1)))) : MuD l yX1_real wsX1_real ({ frames := 2, cells := 0, slots := 0, locals := 56 } : Room) [.ref h, .int q] D (mW cI cZ h b1 b2 b3 u d tr (nI fn) (nI qn) sd th) [(cI, .int), (cZ, .boolean)] (mW cI cZ h b1 b2 b3 u d tr (nI fn) (nI qn) sd (0 : Int32)) (kvX1_real u d tr fn qn q) := by
  intro sz
  refine oo_head (C := RX1) (cc := cX1_real) (maxL := 4) (ret := (some .double)) (by decide) rfl rfl (Nat.le_of_ble_eq_true rfl) ?_
  intro p e s m below meth c hx hb hr hlocks hml hown hnm hts hpre ls hl
  have hl : lv_has ls 4 [(0, .ref h), (1, .int q)] := hl
  obtain ⟨rfl, hP, hK, hD0⟩ := hpre
  have hD := hD0.self (sz := s.heap.size)
  have hA := oo_A (mW cI cZ h b1 b2 b3 u d tr (nI fn) (nI qn) sd th) s
  have hS : va_S (va_A (mW cI cZ h b1 b2 b3 u d tr (nI fn) (nI qn) sd th) s.heap.size) s.heap s.heap [] := va_S.rf
  have hin : ∀ w ∈ wsX10, w ∈ wsX1_real := fun w h => List.mem_cons_of_mem _ (List.mem_append_right _ h)
  refine lv_aload_n hx hb dX1_real_0 rfl (lv_at hl 0 rfl) ?_
  refine lv_iconst (v := (0 : Int32)) hx hb dX1_real_1 (by decide) ?_
  refine va_put (D := D) (ci := 1) (v := .int (0 : Int32)) (ty := .int) (C := RX1) (T := TX1) (N := 7) hx hb hts hin tyX1 tyX1_ok nmX1 hown hK hP hD hS 0 rfl rfl 6 (by decide) (hts (.fieldLink RX1 21 "OddsSamplingModel" "thrown" "I") (by decide +kernel)) (fun _ h9 => h9) rfl (by decide +kernel) rfl rfl (Nat.le_of_ble_eq_true rfl) dX1_real_2 (fun H locs hP hD hS => ?_)
  have hP : va_P D vwCl (mW cI cZ h b1 b2 b3 u d tr (nI fn) (nI qn) sd (0 : Int32)) H := hP
  have hD : va_D _ (mW cI cZ h b1 b2 b3 u d tr (nI fn) (nI qn) sd (0 : Int32)) := hD
  refine lv_aload_n hx hb dX1_real_5 rfl (lv_at hl 0 rfl) ?_
  refine lv_iload_n hx hb dX1_real_6 rfl (lv_at hl 1 rfl) ?_
  refine ro_calli (va_runV (As := [.int q]) (rest := []) ⟨hx, hb, hml, hown, hts⟩ (kX1_isQuestion l D cI cZ h b1 b2 b3 u d tr fn qn sd (0 : Int32) q) (cwV 1 hts gX1_real_X1_isQuestion rfl rfl rfl ok_X1_isQuestion ⟨Nat.le_of_ble_eq_true rfl, Nat.le_of_ble_eq_true rfl⟩) ⟨oo_blind, va_recv hK hP (ci := 1) (q0 := 0) rfl rfl, oo_ps hP hK [0, 1, 2, 3] rfl [0, 1] rfl⟩ rfl rfl hl.1 rfl (lv_room (Nat.le_of_ble_eq_true rfl)) dX1_real_7 ⟨Nat.le_of_ble_eq_true rfl, Nat.le_of_ble_eq_true rfl⟩) hP hS (fun H locs hP hS => ?_)
  refine lv_if_ne (tgt := 17) hx hb dX1_real_10 (by decide) (fun c_10 => ?_) (fun c_10 => ?_)
  · obtain ⟨hq1, hq2⟩ := oo_isQ hqn c_10
    refine lv_aload_n hx hb dX1_real_17 rfl (lv_at hl 0 rfl) ?_
    refine lv_iload_n hx hb dX1_real_18 rfl (lv_at hl 1 rfl) ?_
    refine oo_topI (y := nI q.toNatClampNeg) hq1 ?_
    refine ro_calll (va_runV (As := [.int (nI q.toNatClampNeg)]) (rest := []) ⟨hx, hb, hml, hown, hts⟩ (kX1_sum l D cI cZ h b1 b2 b3 u d tr fn qn sd (0 : Int32) q.toNatClampNeg hfn (by omega) h01) (cwV 1 hts gX1_real_X1_sum rfl rfl rfl ok_X1_sum ⟨Nat.le_of_ble_eq_true rfl, Nat.le_of_ble_eq_true rfl⟩) ⟨oo_blind, va_recv hK hP (ci := 1) (q0 := 0) rfl rfl, oo_ps hP hK [0, 1, 2, 3] rfl [0, 1] rfl⟩ rfl rfl hl.1 rfl (lv_room (Nat.le_of_ble_eq_true rfl)) dX1_real_19 ⟨Nat.le_of_ble_eq_true rfl, Nat.le_of_ble_eq_true rfl⟩) hP hS (fun H locs hP hS => ?_)
    refine lv_lstore_n (lv' := [(2, .long (kvX1_sum u d tr fn q.toNatClampNeg)), (0, .ref h), (1, .int q)]) hx hb dX1_real_22 rfl hl (by decide) rfl (fun ls hl => ?_)
    refine lv_aload_n hx hb dX1_real_23 rfl (lv_at hl 1 rfl) ?_
    refine lv_lload_n hx hb dX1_real_24 rfl (lv_at hl 0 rfl) ?_
    refine lv_aload_n hx hb dX1_real_25 rfl (lv_at hl 1 rfl) ?_
    refine ro_calll (va_runV (As := []) (rest := [.long (kvX1_sum u d tr fn q.toNatClampNeg), .ref h]) ⟨hx, hb, hml, hown, hts⟩ (kX1_all l D cI cZ h b1 b2 b3 u d tr fn qn sd (0 : Int32) hfn) (cwV 0 hts gX1_real_X1_all rfl rfl rfl ok_X1_all ⟨Nat.le_of_ble_eq_true rfl, Nat.le_of_ble_eq_true rfl⟩) ⟨oo_blind, va_recv hK hP (ci := 1) (q0 := 0) rfl rfl, oo_ps hP hK [0, 1, 2, 3] rfl [0, 1] rfl⟩ rfl rfl hl.1 rfl (lv_room (Nat.le_of_ble_eq_true rfl)) dX1_real_26 ⟨Nat.le_of_ble_eq_true rfl, Nat.le_of_ble_eq_true rfl⟩) hP hS (fun H locs hP hS => ?_)
    refine lv_iconst (v := (0 : Int32)) hx hb dX1_real_29 (by decide) ?_
    refine ro_calll (va_runV (As := [.long (kvX1_sum u d tr fn q.toNatClampNeg), .long (kvX1_all d fn), .int (0 : Int32)]) (rest := []) ⟨hx, hb, hml, hown, hts⟩ (kX1_part l D cI cZ h b1 b2 b3 u d tr fn qn sd (0 : Int32) (kvX1_sum u d tr fn q.toNatClampNeg) (kvX1_all d fn) (0 : Int32) (hN c_10) (hz c_10)) (cwV 3 hts gX1_real_X1_part rfl rfl rfl ok_X1_part ⟨Nat.le_of_ble_eq_true rfl, Nat.le_of_ble_eq_true rfl⟩) ⟨oo_blind, va_recv hK hP (ci := 1) (q0 := 0) rfl rfl, oo_ps hP hK [0, 1, 2, 3] rfl [0, 1] rfl⟩ rfl rfl hl.1 rfl (lv_room (Nat.le_of_ble_eq_true rfl)) dX1_real_30 ⟨Nat.le_of_ble_eq_true rfl, Nat.le_of_ble_eq_true rfl⟩) hP hS (fun H locs hP hS => ?_)
    refine lv_l2d hx hb dX1_real_33 ?_
    refine lv_aload_n hx hb dX1_real_34 rfl (lv_at hl 1 rfl) ?_
    refine lv_lload_n hx hb dX1_real_35 rfl (lv_at hl 0 rfl) ?_
    refine lv_aload_n hx hb dX1_real_36 rfl (lv_at hl 1 rfl) ?_
    refine ro_calll (va_runV (As := []) (rest := [.long (kvX1_sum u d tr fn q.toNatClampNeg), .ref h, .double (FP.l2d (kvX1_part (kvX1_sum u d tr fn q.toNatClampNeg) (kvX1_all d fn) (0 : Int32)))]) ⟨hx, hb, hml, hown, hts⟩ (kX1_all l D cI cZ h b1 b2 b3 u d tr fn qn sd (0 : Int32) hfn) (cwV 0 hts gX1_real_X1_all rfl rfl rfl ok_X1_all ⟨Nat.le_of_ble_eq_true rfl, Nat.le_of_ble_eq_true rfl⟩) ⟨oo_blind, va_recv hK hP (ci := 1) (q0 := 0) rfl rfl, oo_ps hP hK [0, 1, 2, 3] rfl [0, 1] rfl⟩ rfl rfl hl.1 rfl (lv_room (Nat.le_of_ble_eq_true rfl)) dX1_real_37 ⟨Nat.le_of_ble_eq_true rfl, Nat.le_of_ble_eq_true rfl⟩) hP hS (fun H locs hP hS => ?_)
    refine lv_iconst (v := (1 : Int32)) hx hb dX1_real_40 (by decide) ?_
    refine ro_calll (va_runV (As := [.long (kvX1_sum u d tr fn q.toNatClampNeg), .long (kvX1_all d fn), .int (1 : Int32)]) (rest := [.double (FP.l2d (kvX1_part (kvX1_sum u d tr fn q.toNatClampNeg) (kvX1_all d fn) (0 : Int32)))]) ⟨hx, hb, hml, hown, hts⟩ (kX1_part l D cI cZ h b1 b2 b3 u d tr fn qn sd (0 : Int32) (kvX1_sum u d tr fn q.toNatClampNeg) (kvX1_all d fn) (1 : Int32) (hN c_10) (hz c_10)) (cwV 3 hts gX1_real_X1_part rfl rfl rfl ok_X1_part ⟨Nat.le_of_ble_eq_true rfl, Nat.le_of_ble_eq_true rfl⟩) ⟨oo_blind, va_recv hK hP (ci := 1) (q0 := 0) rfl rfl, oo_ps hP hK [0, 1, 2, 3] rfl [0, 1] rfl⟩ rfl rfl hl.1 rfl (lv_room (Nat.le_of_ble_eq_true rfl)) dX1_real_41 ⟨Nat.le_of_ble_eq_true rfl, Nat.le_of_ble_eq_true rfl⟩) hP hS (fun H locs hP hS => ?_)
    refine lv_l2d hx hb dX1_real_44 ?_
    refine lv_ddiv hx hb dX1_real_45 (hnan c_10) ?_
    exact mu_retd hx hb hr hlocks hP hD hS (by unfold kvX1_real; rw [if_neg c_10]) dX1_real_46
  · refine lv_ldc2d hx hb hown (hts (.constantDouble RX1 70 13830554455654793216) (by decide +kernel)) dX1_real_13 ?_
    exact mu_retd hx hb hr hlocks hP hD hS (by unfold kvX1_real; rw [if_pos c_10]) dX1_real_16
