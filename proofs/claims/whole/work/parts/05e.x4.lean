theorem ok_X0_holds : yX0_holds.cls = RX0 ∧ yX0_holds.cls ≠ "java/lang/invoke/MethodHandle" ∧ yX0_holds.cls ≠ "java/lang/invoke/VarHandle" ∧ (parseMethodDescriptor yX0_holds.desc).map (fun d => d.parameters.length) = some 2 := by decide +kernel
def kvX0_holds (an : Nat → Int64) (fn : Nat) (qn : Nat) (q : Int32) (w : Int32) : Int32 := if (kvX0_isQuestion qn q) = 0 then (-1 : Int32) else (if (kvX0_isTrue an qn q (w &&& (kvX0_allFacts fn))) = 0 then (0 : Int32) else (1 : Int32))
set_option maxHeartbeats 4000000 in
set_option maxRecDepth 100000 in
theorem kX0_holds (l : Launch) (D : va_G) (cJ : ClassId) (h a1 a2 a3 a4 a5 : Nat) (u d lw uw an : Nat → Int64) (fn qn : Nat) (sd : Int64) (q : Int32) (w : Int32) : RoI l yX0_holds wsX0_holds ({ frames := 3, cells := 0, slots := 0, locals := 67 } : Room) [.ref h, .int q, .int w] D (xW cJ h a1 a2 a3 a4 a5 u d lw uw an (nI fn) (nI qn) sd) [(cJ, .long)] (kvX0_holds an fn qn q w) := by
  refine oo_head (C := RX0) (cc := cX0_holds) (maxL := 3) (ret := (some .int)) (by decide) rfl rfl (Nat.le_of_ble_eq_true rfl) ?_
  intro p e s m below meth c hx hb hr hlocks hml hown hnm hts hpre ls hl
  have hl : lv_has ls 3 [(0, .ref h), (1, .int q), (2, .int w)] := hl
  obtain ⟨hP, hK⟩ := hpre
  have hS : va_S oo_N s.heap s.heap [] := va_S.rf
  refine lv_aload_n hx hb dX0_holds_0 rfl (lv_at hl 0 rfl) ?_
  refine lv_iload_n hx hb dX0_holds_1 rfl (lv_at hl 1 rfl) ?_
  refine ro_calli (va_runV (As := [.int q]) (rest := []) ⟨hx, hb, hml, hown, hts⟩ (kX0_isQuestion l D cJ h a1 a2 a3 a4 a5 u d lw uw an fn qn sd q) (cwV 1 hts gX0_holds_X0_isQuestion rfl rfl rfl ok_X0_isQuestion ⟨Nat.le_of_ble_eq_true rfl, Nat.le_of_ble_eq_true rfl⟩) ⟨oo_blind, va_recv hK hP (ci := 0) (q0 := 0) rfl rfl, oo_ps hP hK [0, 1, 2, 3, 4, 5] rfl [0] rfl⟩ rfl rfl hl.1 rfl (lv_room (Nat.le_of_ble_eq_true rfl)) dX0_holds_2 ⟨Nat.le_of_ble_eq_true rfl, Nat.le_of_ble_eq_true rfl⟩) hP hS (fun H locs hP hS => ?_)
  refine lv_if_ne (tgt := 10) hx hb dX0_holds_5 (by decide) (fun c_5 => ?_) (fun c_5 => ?_)
  · refine lv_aload_n hx hb dX0_holds_10 rfl (lv_at hl 0 rfl) ?_
    refine lv_iload_n hx hb dX0_holds_11 rfl (lv_at hl 1 rfl) ?_
    refine lv_iload_n hx hb dX0_holds_12 rfl (lv_at hl 2 rfl) ?_
    refine lv_aload_n hx hb dX0_holds_13 rfl (lv_at hl 0 rfl) ?_
    refine ro_calli (va_runV (As := []) (rest := [.int w, .int q, .ref h]) ⟨hx, hb, hml, hown, hts⟩ (kX0_allFacts l D cJ h a1 a2 a3 a4 a5 u d lw uw an fn qn sd) (cwV 0 hts gX0_holds_X0_allFacts rfl rfl rfl ok_X0_allFacts ⟨Nat.le_of_ble_eq_true rfl, Nat.le_of_ble_eq_true rfl⟩) ⟨oo_blind, va_recv hK hP (ci := 0) (q0 := 0) rfl rfl, oo_ps hP hK [0, 1, 2, 3, 4, 5] rfl [0] rfl⟩ rfl rfl hl.1 rfl (lv_room (Nat.le_of_ble_eq_true rfl)) dX0_holds_14 ⟨Nat.le_of_ble_eq_true rfl, Nat.le_of_ble_eq_true rfl⟩) hP hS (fun H locs hP hS => ?_)
    refine lv_iand hx hb dX0_holds_17 ?_
    refine ro_calli (va_runV (As := [.int q, .int (w &&& (kvX0_allFacts fn))]) (rest := []) ⟨hx, hb, hml, hown, hts⟩ (kX0_isTrue l D cJ h a1 a2 a3 a4 a5 u d lw uw an fn qn sd q (w &&& (kvX0_allFacts fn))) (cwV 2 hts gX0_holds_X0_isTrue rfl rfl rfl ok_X0_isTrue ⟨Nat.le_of_ble_eq_true rfl, Nat.le_of_ble_eq_true rfl⟩) ⟨oo_blind, va_recv hK hP (ci := 0) (q0 := 0) rfl rfl, oo_ps hP hK [0, 1, 2, 3, 4, 5] rfl [0] rfl⟩ rfl rfl hl.1 rfl (lv_room (Nat.le_of_ble_eq_true rfl)) dX0_holds_18 ⟨Nat.le_of_ble_eq_true rfl, Nat.le_of_ble_eq_true rfl⟩) hP hS (fun H locs hP hS => ?_)
    refine lv_if_eq (tgt := 28) hx hb dX0_holds_21 (by decide) (fun c_21 => ?_) (fun c_21 => ?_)
    · refine lv_iconst (v := (0 : Int32)) hx hb dX0_holds_28 (by decide) ?_
      exact ro_reti hx hb hr hlocks hS (by unfold kvX0_holds; rw [if_neg c_5, if_pos c_21]) dX0_holds_29
    · refine lv_iconst (v := (1 : Int32)) hx hb dX0_holds_24 (by decide) ?_
      refine lv_goto (tgt := 29) hx hb dX0_holds_25 (by decide) ?_
      exact ro_reti hx hb hr hlocks hS (by unfold kvX0_holds; rw [if_neg c_5, if_neg c_21]) dX0_holds_29
  · refine lv_iconst (v := (-1 : Int32)) hx hb dX0_holds_8 (by decide) ?_
    exact ro_reti hx hb hr hlocks hS (by unfold kvX0_holds; rw [if_pos c_5]) dX0_holds_9
theorem ok_X0_chance : yX0_chance.cls = RX0 ∧ yX0_chance.cls ≠ "java/lang/invoke/MethodHandle" ∧ yX0_chance.cls ≠ "java/lang/invoke/VarHandle" ∧ (parseMethodDescriptor yX0_chance.desc).map (fun d => d.parameters.length) = some 2 := by decide +kernel
def kvX0_chance (d : Nat → Int64) (lw : Nat → Int64) (uw : Nat → Int64) (an : Nat → Int64) (fn : Nat) (qn : Nat) (q : Int32) (pt : Int32) : Int64 := if (kvX0_isQuestion qn q) = 0 then (-1 : Int64) else (if (kvX0_isPart pt) = 0 then (-1 : Int64) else (kvX0_lowestPart (kvX0_sumOfBoth lw uw an qn q q) (kvX0_allBut d fn (-1 : Int32)) pt))
set_option maxHeartbeats 4000000 in
set_option maxRecDepth 100000 in
theorem kX0_chance (l : Launch) (D : va_G) (cJ : ClassId) (h a1 a2 a3 a4 a5 : Nat) (u d lw uw an : Nat → Int64) (fn qn : Nat) (sd : Int64) (q : Int32) (pt : Int32) (hfn : fn ≤ 12) : RoL l yX0_chance wsX0_chance ({ frames := 3, cells := 0, slots := 0, locals := 74 } : Room) [.ref h, .int q, .int pt] D (xW cJ h a1 a2 a3 a4 a5 u d lw uw an (nI fn) (nI qn) sd) [(cJ, .long)] (kvX0_chance d lw uw an fn qn q pt) := by
  refine oo_head (C := RX0) (cc := cX0_chance) (maxL := 3) (ret := (some .long)) (by decide) rfl rfl (Nat.le_of_ble_eq_true rfl) ?_
  intro p e s m below meth c hx hb hr hlocks hml hown hnm hts hpre ls hl
  have hl : lv_has ls 3 [(0, .ref h), (1, .int q), (2, .int pt)] := hl
  obtain ⟨hP, hK⟩ := hpre
  have hS : va_S oo_N s.heap s.heap [] := va_S.rf
  refine lv_aload_n hx hb dX0_chance_0 rfl (lv_at hl 0 rfl) ?_
  refine lv_iload_n hx hb dX0_chance_1 rfl (lv_at hl 1 rfl) ?_
  refine ro_calli (va_runV (As := [.int q]) (rest := []) ⟨hx, hb, hml, hown, hts⟩ (kX0_isQuestion l D cJ h a1 a2 a3 a4 a5 u d lw uw an fn qn sd q) (cwV 1 hts gX0_chance_X0_isQuestion rfl rfl rfl ok_X0_isQuestion ⟨Nat.le_of_ble_eq_true rfl, Nat.le_of_ble_eq_true rfl⟩) ⟨oo_blind, va_recv hK hP (ci := 0) (q0 := 0) rfl rfl, oo_ps hP hK [0, 1, 2, 3, 4, 5] rfl [0] rfl⟩ rfl rfl hl.1 rfl (lv_room (Nat.le_of_ble_eq_true rfl)) dX0_chance_2 ⟨Nat.le_of_ble_eq_true rfl, Nat.le_of_ble_eq_true rfl⟩) hP hS (fun H locs hP hS => ?_)
  refine lv_if_eq (tgt := 15) hx hb dX0_chance_5 (by decide) (fun c_5 => ?_) (fun c_5 => ?_)
  · refine lv_ldc2 hx hb hown (hts (.constantLong RX0 98 (-1)) (by decide +kernel)) dX0_chance_15 ?_
    exact ro_retl hx hb hr hlocks hS (by unfold kvX0_chance; rw [if_pos c_5]) dX0_chance_18
  · refine lv_iload_n hx hb dX0_chance_8 rfl (lv_at hl 2 rfl) ?_
    refine ro_calli (va_runS (As := [.int pt]) (rest := []) ⟨hx, hb, hml, hown, hts⟩ (kX0_isPart l D pt) (va_cwS 1 hts gX0_chance_X0_isPart rfl rfl rfl ok_X0_isPart ⟨Nat.le_of_ble_eq_true rfl, Nat.le_of_ble_eq_true rfl⟩) ⟨oo_blind, oo_ps hP hK [] rfl [] rfl⟩ rfl rfl hl.1 rfl (lv_room (Nat.le_of_ble_eq_true rfl)) dX0_chance_9 ⟨Nat.le_of_ble_eq_true rfl, Nat.le_of_ble_eq_true rfl⟩) hP hS (fun H locs hP hS => ?_)
    refine lv_if_ne (tgt := 19) hx hb dX0_chance_12 (by decide) (fun c_12 => ?_) (fun c_12 => ?_)
    · refine lv_aload_n hx hb dX0_chance_19 rfl (lv_at hl 0 rfl) ?_
      refine lv_iload_n hx hb dX0_chance_20 rfl (lv_at hl 1 rfl) ?_
      refine lv_iload_n hx hb dX0_chance_21 rfl (lv_at hl 1 rfl) ?_
      refine ro_calll (va_runV (As := [.int q, .int q]) (rest := []) ⟨hx, hb, hml, hown, hts⟩ (kX0_sumOfBoth l D cJ h a1 a2 a3 a4 a5 u d lw uw an fn qn sd q q) (cwV 2 hts gX0_chance_X0_sumOfBoth rfl rfl rfl ok_X0_sumOfBoth ⟨Nat.le_of_ble_eq_true rfl, Nat.le_of_ble_eq_true rfl⟩) ⟨oo_blind, va_recv hK hP (ci := 0) (q0 := 0) rfl rfl, oo_ps hP hK [0, 1, 2, 3, 4, 5] rfl [0] rfl⟩ rfl rfl hl.1 rfl (lv_room (Nat.le_of_ble_eq_true rfl)) dX0_chance_22 ⟨Nat.le_of_ble_eq_true rfl, Nat.le_of_ble_eq_true rfl⟩) hP hS (fun H locs hP hS => ?_)
      refine lv_aload_n hx hb dX0_chance_25 rfl (lv_at hl 0 rfl) ?_
      refine lv_iconst (v := (-1 : Int32)) hx hb dX0_chance_26 (by decide) ?_
      refine ro_calll (va_runV (As := [.int (-1 : Int32)]) (rest := [.long (kvX0_sumOfBoth lw uw an qn q q)]) ⟨hx, hb, hml, hown, hts⟩ (kX0_allBut l D cJ h a1 a2 a3 a4 a5 u d lw uw an fn qn sd (-1 : Int32) hfn) (cwV 1 hts gX0_chance_X0_allBut rfl rfl rfl ok_X0_allBut ⟨Nat.le_of_ble_eq_true rfl, Nat.le_of_ble_eq_true rfl⟩) ⟨oo_blind, va_recv hK hP (ci := 0) (q0 := 0) rfl rfl, oo_ps hP hK [0, 1, 2, 3, 4, 5] rfl [0] rfl⟩ rfl rfl hl.1 rfl (lv_room (Nat.le_of_ble_eq_true rfl)) dX0_chance_27 ⟨Nat.le_of_ble_eq_true rfl, Nat.le_of_ble_eq_true rfl⟩) hP hS (fun H locs hP hS => ?_)
      refine lv_iload_n hx hb dX0_chance_30 rfl (lv_at hl 2 rfl) ?_
      refine ro_calll (va_runS (As := [.long (kvX0_sumOfBoth lw uw an qn q q), .long (kvX0_allBut d fn (-1 : Int32)), .int pt]) (rest := []) ⟨hx, hb, hml, hown, hts⟩ (kX0_lowestPart l D (kvX0_sumOfBoth lw uw an qn q q) (kvX0_allBut d fn (-1 : Int32)) pt) (va_cwS 3 hts gX0_chance_X0_lowestPart rfl rfl rfl ok_X0_lowestPart ⟨Nat.le_of_ble_eq_true rfl, Nat.le_of_ble_eq_true rfl⟩) ⟨oo_blind, oo_ps hP hK [] rfl [] rfl⟩ rfl rfl hl.1 rfl (lv_room (Nat.le_of_ble_eq_true rfl)) dX0_chance_31 ⟨Nat.le_of_ble_eq_true rfl, Nat.le_of_ble_eq_true rfl⟩) hP hS (fun H locs hP hS => ?_)
      exact ro_retl hx hb hr hlocks hS (by unfold kvX0_chance; rw [if_neg c_5, if_neg c_12]) dX0_chance_34
    · refine lv_ldc2 hx hb hown (hts (.constantLong RX0 98 (-1)) (by decide +kernel)) dX0_chance_15 ?_
      exact ro_retl hx hb hr hlocks hS (by unfold kvX0_chance; rw [if_neg c_5, if_pos c_12]) dX0_chance_18
