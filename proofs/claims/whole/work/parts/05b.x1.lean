theorem ok_X0_sumWhenSurely : yX0_sumWhenSurely.cls = RX0 ∧ yX0_sumWhenSurely.cls ≠ "java/lang/invoke/MethodHandle" ∧ yX0_sumWhenSurely.cls ≠ "java/lang/invoke/VarHandle" ∧ (parseMethodDescriptor yX0_sumWhenSurely.desc).map (fun d => d.parameters.length) = some 3 := by decide +kernel
def kvX0_sumWhenSurely (u : Nat → Int64) (d : Nat → Int64) (lw : Nat → Int64) (uw : Nat → Int64) (an : Nat → Int64) (qn : Nat) (q : Int32) (k : Int32) (up : Int32) : Int64 := kvX0_sumOfBoth (kl_whO (kvX0_put_c0 12 u k up.toInt64) (kvX0_put_c0 12 d k (1 : Int64)) (0 : Int32) lw 6) (kl_whO (kvX0_put_c0 12 u k up.toInt64) (kvX0_put_c0 12 d k (1 : Int64)) (nI 6) uw 6) an qn q q
set_option maxHeartbeats 4000000 in
set_option maxRecDepth 100000 in
theorem kX0_sumWhenSurely (l : Launch) (D : va_G) (cJ : ClassId) (h a1 a2 a3 a4 a5 : Nat) (u d lw uw an : Nat → Int64) (fn qn : Nat) (sd : Int64) (q : Int32) (k : Int32) (up : Int32) : MuL l yX0_sumWhenSurely wsX0_sumWhenSurely ({ frames := 4, cells := 0, slots := 0, locals := 99 } : Room) [.ref h, .int q, .int k, .int up] D (xW cJ h a1 a2 a3 a4 a5 u d lw uw an (nI fn) (nI qn) sd) [(cJ, .long)] (xW cJ h a1 a2 a3 a4 a5 (kvX0_put_c0 12 (kvX0_put_c0 12 u k up.toInt64) k (kvX0_at 12 u k)) (kvX0_put_c0 12 (kvX0_put_c0 12 d k (1 : Int64)) k (kvX0_at 12 d k)) (kl_whO (kvX0_put_c0 12 (kvX0_put_c0 12 u k up.toInt64) k (kvX0_at 12 u k)) (kvX0_put_c0 12 (kvX0_put_c0 12 d k (1 : Int64)) k (kvX0_at 12 d k)) (0 : Int32) (kl_whO (kvX0_put_c0 12 u k up.toInt64) (kvX0_put_c0 12 d k (1 : Int64)) (0 : Int32) lw 6) 6) (kl_whO (kvX0_put_c0 12 (kvX0_put_c0 12 u k up.toInt64) k (kvX0_at 12 u k)) (kvX0_put_c0 12 (kvX0_put_c0 12 d k (1 : Int64)) k (kvX0_at 12 d k)) (nI 6) (kl_whO (kvX0_put_c0 12 u k up.toInt64) (kvX0_put_c0 12 d k (1 : Int64)) (nI 6) uw 6) 6) an (nI fn) (nI qn) sd) (kvX0_sumWhenSurely u d lw uw an qn q k up) := by
  intro sz
  refine oo_head (C := RX0) (cc := cX0_sumWhenSurely) (maxL := 10) (ret := (some .long)) (by decide) rfl rfl (Nat.le_of_ble_eq_true rfl) ?_
  intro p e s m below meth c hx hb hr hlocks hml hown hnm hts hpre ls hl
  have hl : lv_has ls 10 [(0, .ref h), (1, .int q), (2, .int k), (3, .int up)] := hl
  obtain ⟨rfl, hP, hK, hD0⟩ := hpre
  have hD := hD0.self (sz := s.heap.size)
  have hA := oo_A (xW cJ h a1 a2 a3 a4 a5 u d lw uw an (nI fn) (nI qn) sd) s
  have hS : va_S (va_A (xW cJ h a1 a2 a3 a4 a5 u d lw uw an (nI fn) (nI qn) sd) s.heap.size) s.heap s.heap [] := va_S.rf
  have hin : ∀ w ∈ wsX00, w ∈ wsX0_sumWhenSurely := fun w h => List.mem_cons_of_mem _ (List.mem_append_right _ h)
  refine lv_aload_n hx hb dX0_sumWhenSurely_0 rfl (lv_at hl 0 rfl) ?_
  refine va_get (D := D) (ci := 0) (v := .ref a1) (C := RX0) (T := TX0) (N := 8) hx hb hts hin hown hK hP 0 rfl rfl 0 (by decide) (hts (.fieldLink RX0 9 "OddsSampling" "ups" "[J") (by decide +kernel)) (fun _ h9 => h9) rfl dX0_sumWhenSurely_1 ?_
  refine lv_iload_n hx hb dX0_sumWhenSurely_4 rfl (lv_at hl 2 rfl) ?_
  refine ro_calll (va_runS (As := [.ref a1, .int k]) (rest := []) ⟨hx, hb, hml, hown, hts⟩ (kX0_at l D cJ a1 12 u k (by omega)) (va_cwS 2 hts gX0_sumWhenSurely_X0_at rfl rfl rfl ok_X0_at ⟨Nat.le_of_ble_eq_true rfl, Nat.le_of_ble_eq_true rfl⟩) ⟨oo_blind, oo_ps hP hK [1] rfl [0] rfl⟩ rfl rfl hl.1 rfl (lv_room (Nat.le_of_ble_eq_true rfl)) dX0_sumWhenSurely_5 ⟨Nat.le_of_ble_eq_true rfl, Nat.le_of_ble_eq_true rfl⟩) hP hS (fun H locs hP hS => ?_)
  refine lv_lstore (lv' := [(4, .long (kvX0_at 12 u k)), (0, .ref h), (1, .int q), (2, .int k), (3, .int up)]) hx hb dX0_sumWhenSurely_8 hl (by decide) rfl (fun ls hl => ?_)
  refine lv_aload_n hx hb dX0_sumWhenSurely_10 rfl (lv_at hl 1 rfl) ?_
  refine va_get (D := D) (ci := 0) (v := .ref a2) (C := RX0) (T := TX0) (N := 8) hx hb hts hin hown hK hP 0 rfl rfl 1 (by decide) (hts (.fieldLink RX0 13 "OddsSampling" "downs" "[J") (by decide +kernel)) (fun _ h9 => h9) rfl dX0_sumWhenSurely_11 ?_
  refine lv_iload_n hx hb dX0_sumWhenSurely_14 rfl (lv_at hl 3 rfl) ?_
  refine ro_calll (va_runS (As := [.ref a2, .int k]) (rest := []) ⟨hx, hb, hml, hown, hts⟩ (kX0_at l D cJ a2 12 d k (by omega)) (va_cwS 2 hts gX0_sumWhenSurely_X0_at rfl rfl rfl ok_X0_at ⟨Nat.le_of_ble_eq_true rfl, Nat.le_of_ble_eq_true rfl⟩) ⟨oo_blind, oo_ps hP hK [2] rfl [0] rfl⟩ rfl rfl hl.1 rfl (lv_room (Nat.le_of_ble_eq_true rfl)) dX0_sumWhenSurely_15 ⟨Nat.le_of_ble_eq_true rfl, Nat.le_of_ble_eq_true rfl⟩) hP hS (fun H locs hP hS => ?_)
  refine lv_lstore (lv' := [(6, .long (kvX0_at 12 d k)), (4, .long (kvX0_at 12 u k)), (0, .ref h), (1, .int q), (2, .int k), (3, .int up)]) hx hb dX0_sumWhenSurely_18 hl (by decide) rfl (fun ls hl => ?_)
  refine lv_aload_n hx hb dX0_sumWhenSurely_20 rfl (lv_at hl 2 rfl) ?_
  refine lv_iload_n hx hb dX0_sumWhenSurely_21 rfl (lv_at hl 4 rfl) ?_
  refine lv_iload_n hx hb dX0_sumWhenSurely_22 rfl (lv_at hl 5 rfl) ?_
  refine lv_i2l hx hb dX0_sumWhenSurely_23 rfl ?_
  refine lv_lconst (v := (1 : Int64)) hx hb dX0_sumWhenSurely_24 (by decide) ?_
  refine mu_callv (va_runV (As := [.int k, .long up.toInt64, .long (1 : Int64)]) (rest := []) ⟨hx, hb, hml, hown, hts⟩ (kX0_putOdds l D cJ h a1 a2 a3 a4 a5 u d lw uw an fn qn sd k up.toInt64 (1 : Int64) _) (cwV 3 hts gX0_sumWhenSurely_X0_putOdds rfl rfl rfl ok_X0_putOdds ⟨Nat.le_of_ble_eq_true rfl, Nat.le_of_ble_eq_true rfl⟩) ⟨oo_blindM, va_recv hK hP (ci := 0) (q0 := 0) rfl rfl, oo_psM hP hD hK [0, 1, 2, 3, 4, 5] rfl rfl [0] rfl⟩ rfl rfl hl.1 rfl (lv_room (Nat.le_of_ble_eq_true rfl)) dX0_sumWhenSurely_25 ⟨Nat.le_of_ble_eq_true rfl, Nat.le_of_ble_eq_true rfl⟩) hP hD hS hA [0, 1, 2, 3, 4, 5] rfl (oo_fc (oo_fc (oo_fc (oo_fc (oo_fc (oo_fc rfl)))))) (fun H locs hP hD hS => ?_)
  have hP : va_P D vwCl (xW cJ h a1 a2 a3 a4 a5 (kvX0_put_c0 12 u k up.toInt64) (kvX0_put_c0 12 d k (1 : Int64)) (kl_whO (kvX0_put_c0 12 u k up.toInt64) (kvX0_put_c0 12 d k (1 : Int64)) (0 : Int32) lw 6) (kl_whO (kvX0_put_c0 12 u k up.toInt64) (kvX0_put_c0 12 d k (1 : Int64)) (nI 6) uw 6) an (nI fn) (nI qn) sd) H := hP
  have hD : va_D _ (xW cJ h a1 a2 a3 a4 a5 (kvX0_put_c0 12 u k up.toInt64) (kvX0_put_c0 12 d k (1 : Int64)) (kl_whO (kvX0_put_c0 12 u k up.toInt64) (kvX0_put_c0 12 d k (1 : Int64)) (0 : Int32) lw 6) (kl_whO (kvX0_put_c0 12 u k up.toInt64) (kvX0_put_c0 12 d k (1 : Int64)) (nI 6) uw 6) an (nI fn) (nI qn) sd) := hD
  refine lv_aload_n hx hb dX0_sumWhenSurely_28 rfl (lv_at hl 2 rfl) ?_
  refine lv_iload_n hx hb dX0_sumWhenSurely_29 rfl (lv_at hl 3 rfl) ?_
  refine lv_iload_n hx hb dX0_sumWhenSurely_30 rfl (lv_at hl 3 rfl) ?_
  refine ro_calll (va_runV (As := [.int q, .int q]) (rest := []) ⟨hx, hb, hml, hown, hts⟩ (kX0_sumOfBoth l D cJ h a1 a2 a3 a4 a5 (kvX0_put_c0 12 u k up.toInt64) (kvX0_put_c0 12 d k (1 : Int64)) (kl_whO (kvX0_put_c0 12 u k up.toInt64) (kvX0_put_c0 12 d k (1 : Int64)) (0 : Int32) lw 6) (kl_whO (kvX0_put_c0 12 u k up.toInt64) (kvX0_put_c0 12 d k (1 : Int64)) (nI 6) uw 6) an fn qn sd q q) (cwV 2 hts gX0_sumWhenSurely_X0_sumOfBoth rfl rfl rfl ok_X0_sumOfBoth ⟨Nat.le_of_ble_eq_true rfl, Nat.le_of_ble_eq_true rfl⟩) ⟨oo_blind, va_recv hK hP (ci := 0) (q0 := 0) rfl rfl, oo_ps hP hK [0, 1, 2, 3, 4, 5] rfl [0] rfl⟩ rfl rfl hl.1 rfl (lv_room (Nat.le_of_ble_eq_true rfl)) dX0_sumWhenSurely_31 ⟨Nat.le_of_ble_eq_true rfl, Nat.le_of_ble_eq_true rfl⟩) hP hS (fun H locs hP hS => ?_)
  refine lv_lstore (lv' := [(8, .long (kvX0_sumOfBoth (kl_whO (kvX0_put_c0 12 u k up.toInt64) (kvX0_put_c0 12 d k (1 : Int64)) (0 : Int32) lw 6) (kl_whO (kvX0_put_c0 12 u k up.toInt64) (kvX0_put_c0 12 d k (1 : Int64)) (nI 6) uw 6) an qn q q)), (6, .long (kvX0_at 12 d k)), (4, .long (kvX0_at 12 u k)), (0, .ref h), (1, .int q), (2, .int k), (3, .int up)]) hx hb dX0_sumWhenSurely_34 hl (by decide) rfl (fun ls hl => ?_)
  refine lv_aload_n hx hb dX0_sumWhenSurely_36 rfl (lv_at hl 3 rfl) ?_
  refine lv_iload_n hx hb dX0_sumWhenSurely_37 rfl (lv_at hl 5 rfl) ?_
  refine lv_lload hx hb dX0_sumWhenSurely_38 (lv_at hl 2 rfl) ?_
  refine lv_lload hx hb dX0_sumWhenSurely_40 (lv_at hl 1 rfl) ?_
  refine mu_callv (va_runV (As := [.int k, .long (kvX0_at 12 u k), .long (kvX0_at 12 d k)]) (rest := []) ⟨hx, hb, hml, hown, hts⟩ (kX0_putOdds l D cJ h a1 a2 a3 a4 a5 (kvX0_put_c0 12 u k up.toInt64) (kvX0_put_c0 12 d k (1 : Int64)) (kl_whO (kvX0_put_c0 12 u k up.toInt64) (kvX0_put_c0 12 d k (1 : Int64)) (0 : Int32) lw 6) (kl_whO (kvX0_put_c0 12 u k up.toInt64) (kvX0_put_c0 12 d k (1 : Int64)) (nI 6) uw 6) an fn qn sd k (kvX0_at 12 u k) (kvX0_at 12 d k) _) (cwV 3 hts gX0_sumWhenSurely_X0_putOdds rfl rfl rfl ok_X0_putOdds ⟨Nat.le_of_ble_eq_true rfl, Nat.le_of_ble_eq_true rfl⟩) ⟨oo_blindM, va_recv hK hP (ci := 0) (q0 := 0) rfl rfl, oo_psM hP hD hK [0, 1, 2, 3, 4, 5] rfl rfl [0] rfl⟩ rfl rfl hl.1 rfl (lv_room (Nat.le_of_ble_eq_true rfl)) dX0_sumWhenSurely_42 ⟨Nat.le_of_ble_eq_true rfl, Nat.le_of_ble_eq_true rfl⟩) hP hD hS hA [0, 1, 2, 3, 4, 5] rfl (oo_fc (oo_fc (oo_fc (oo_fc (oo_fc (oo_fc rfl)))))) (fun H locs hP hD hS => ?_)
  have hP : va_P D vwCl (xW cJ h a1 a2 a3 a4 a5 (kvX0_put_c0 12 (kvX0_put_c0 12 u k up.toInt64) k (kvX0_at 12 u k)) (kvX0_put_c0 12 (kvX0_put_c0 12 d k (1 : Int64)) k (kvX0_at 12 d k)) (kl_whO (kvX0_put_c0 12 (kvX0_put_c0 12 u k up.toInt64) k (kvX0_at 12 u k)) (kvX0_put_c0 12 (kvX0_put_c0 12 d k (1 : Int64)) k (kvX0_at 12 d k)) (0 : Int32) (kl_whO (kvX0_put_c0 12 u k up.toInt64) (kvX0_put_c0 12 d k (1 : Int64)) (0 : Int32) lw 6) 6) (kl_whO (kvX0_put_c0 12 (kvX0_put_c0 12 u k up.toInt64) k (kvX0_at 12 u k)) (kvX0_put_c0 12 (kvX0_put_c0 12 d k (1 : Int64)) k (kvX0_at 12 d k)) (nI 6) (kl_whO (kvX0_put_c0 12 u k up.toInt64) (kvX0_put_c0 12 d k (1 : Int64)) (nI 6) uw 6) 6) an (nI fn) (nI qn) sd) H := hP
  have hD : va_D _ (xW cJ h a1 a2 a3 a4 a5 (kvX0_put_c0 12 (kvX0_put_c0 12 u k up.toInt64) k (kvX0_at 12 u k)) (kvX0_put_c0 12 (kvX0_put_c0 12 d k (1 : Int64)) k (kvX0_at 12 d k)) (kl_whO (kvX0_put_c0 12 (kvX0_put_c0 12 u k up.toInt64) k (kvX0_at 12 u k)) (kvX0_put_c0 12 (kvX0_put_c0 12 d k (1 : Int64)) k (kvX0_at 12 d k)) (0 : Int32) (kl_whO (kvX0_put_c0 12 u k up.toInt64) (kvX0_put_c0 12 d k (1 : Int64)) (0 : Int32) lw 6) 6) (kl_whO (kvX0_put_c0 12 (kvX0_put_c0 12 u k up.toInt64) k (kvX0_at 12 u k)) (kvX0_put_c0 12 (kvX0_put_c0 12 d k (1 : Int64)) k (kvX0_at 12 d k)) (nI 6) (kl_whO (kvX0_put_c0 12 u k up.toInt64) (kvX0_put_c0 12 d k (1 : Int64)) (nI 6) uw 6) 6) an (nI fn) (nI qn) sd) := hD
  refine lv_lload hx hb dX0_sumWhenSurely_45 (lv_at hl 0 rfl) ?_
  exact mu_retl hx hb hr hlocks hP hD hS (by unfold kvX0_sumWhenSurely; rfl) dX0_sumWhenSurely_47
theorem ok_X0_fact : yX0_fact.cls = RX0 ∧ yX0_fact.cls ≠ "java/lang/invoke/MethodHandle" ∧ yX0_fact.cls ≠ "java/lang/invoke/VarHandle" ∧ (parseMethodDescriptor yX0_fact.desc).map (fun d => d.parameters.length) = some 2 := by decide +kernel
def kvX0_fact (fn : Nat) (up : Int32) (dn : Int32) : Int32 := if (kvX0_areOdds up dn) = 0 then (-1 : Int32) else (if (nI fn) < (nI 12) then (nI fn) else (-3 : Int32))
def kvX0_fact_u (u : Nat → Int64) (fn : Nat) (up : Int32) (dn : Int32) : Nat → Int64 := if (kvX0_areOdds up dn) = 0 then u else (if (nI fn) < (nI 12) then (kvX0_put_c0 12 u (nI fn) up.toInt64) else u)
def kvX0_fact_d (d : Nat → Int64) (fn : Nat) (up : Int32) (dn : Int32) : Nat → Int64 := if (kvX0_areOdds up dn) = 0 then d else (if (nI fn) < (nI 12) then (kvX0_put_c0 12 d (nI fn) dn.toInt64) else d)
def kvX0_fact_lw (u : Nat → Int64) (d : Nat → Int64) (lw : Nat → Int64) (fn : Nat) (up : Int32) (dn : Int32) : Nat → Int64 := if (kvX0_areOdds up dn) = 0 then lw else (if (nI fn) < (nI 12) then (kl_whO (kvX0_put_c0 12 u (nI fn) up.toInt64) (kvX0_put_c0 12 d (nI fn) dn.toInt64) (0 : Int32) lw 6) else lw)
def kvX0_fact_uw (u : Nat → Int64) (d : Nat → Int64) (uw : Nat → Int64) (fn : Nat) (up : Int32) (dn : Int32) : Nat → Int64 := if (kvX0_areOdds up dn) = 0 then uw else (if (nI fn) < (nI 12) then (kl_whO (kvX0_put_c0 12 u (nI fn) up.toInt64) (kvX0_put_c0 12 d (nI fn) dn.toInt64) (nI 6) uw 6) else uw)
def kvX0_fact_fc (fn : Nat) (up : Int32) (dn : Int32) : Int32 := if (kvX0_areOdds up dn) = 0 then (nI fn) else (if (nI fn) < (nI 12) then (nI (fn + 1)) else (nI fn))
set_option maxHeartbeats 4000000 in
set_option maxRecDepth 100000 in
theorem kX0_fact (l : Launch) (D : va_G) (cJ : ClassId) (h a1 a2 a3 a4 a5 : Nat) (u d lw uw an : Nat → Int64) (fn qn : Nat) (sd : Int64) (up : Int32) (dn : Int32) : MuI l yX0_fact wsX0_fact ({ frames := 4, cells := 0, slots := 0, locals := 99 } : Room) [.ref h, .int up, .int dn] D (xW cJ h a1 a2 a3 a4 a5 u d lw uw an (nI fn) (nI qn) sd) [(cJ, .long)] (xW cJ h a1 a2 a3 a4 a5 (kvX0_fact_u u fn up dn) (kvX0_fact_d d fn up dn) (kvX0_fact_lw u d lw fn up dn) (kvX0_fact_uw u d uw fn up dn) an (kvX0_fact_fc fn up dn) (nI qn) sd) (kvX0_fact fn up dn) := by
  intro sz
  refine oo_head (C := RX0) (cc := cX0_fact) (maxL := 4) (ret := (some .int)) (by decide) rfl rfl (Nat.le_of_ble_eq_true rfl) ?_
  intro p e s m below meth c hx hb hr hlocks hml hown hnm hts hpre ls hl
  have hl : lv_has ls 4 [(0, .ref h), (1, .int up), (2, .int dn)] := hl
  obtain ⟨rfl, hP, hK, hD0⟩ := hpre
  have hD := hD0.self (sz := s.heap.size)
  have hA := oo_A (xW cJ h a1 a2 a3 a4 a5 u d lw uw an (nI fn) (nI qn) sd) s
  have hS : va_S (va_A (xW cJ h a1 a2 a3 a4 a5 u d lw uw an (nI fn) (nI qn) sd) s.heap.size) s.heap s.heap [] := va_S.rf
  have hin : ∀ w ∈ wsX00, w ∈ wsX0_fact := fun w h => List.mem_cons_of_mem _ (List.mem_append_right _ h)
  refine lv_iload_n hx hb dX0_fact_0 rfl (lv_at hl 1 rfl) ?_
  refine lv_iload_n hx hb dX0_fact_1 rfl (lv_at hl 2 rfl) ?_
  refine ro_calli (va_runS (As := [.int up, .int dn]) (rest := []) ⟨hx, hb, hml, hown, hts⟩ (kX0_areOdds l D up dn) (va_cwS 2 hts gX0_fact_X0_areOdds rfl rfl rfl ok_X0_areOdds ⟨Nat.le_of_ble_eq_true rfl, Nat.le_of_ble_eq_true rfl⟩) ⟨oo_blind, oo_ps hP hK [] rfl [] rfl⟩ rfl rfl hl.1 rfl (lv_room (Nat.le_of_ble_eq_true rfl)) dX0_fact_2 ⟨Nat.le_of_ble_eq_true rfl, Nat.le_of_ble_eq_true rfl⟩) hP hS (fun H locs hP hS => ?_)
  refine lv_if_ne (tgt := 10) hx hb dX0_fact_5 (by decide) (fun c_5 => ?_) (fun c_5 => ?_)
  · refine lv_aload_n hx hb dX0_fact_10 rfl (lv_at hl 0 rfl) ?_
    refine va_get (D := D) (ci := 0) (v := .int (nI fn)) (C := RX0) (T := TX0) (N := 8) hx hb hts hin hown hK hP 0 rfl rfl 5 (by decide) (hts (.fieldLink RX0 25 "OddsSampling" "factCount" "I") (by decide +kernel)) (fun _ h9 => h9) rfl dX0_fact_11 ?_
    refine lv_bipush (v := nI 12) hx hb dX0_fact_14 (by decide) ?_
    refine lv_icmp_lt (tgt := 22) hx hb dX0_fact_16 (by decide) (fun c_16 => ?_) (fun c_16 => ?_)
    · refine lv_aload_n hx hb dX0_fact_22 rfl (lv_at hl 0 rfl) ?_
      refine va_get (D := D) (ci := 0) (v := .int (nI fn)) (C := RX0) (T := TX0) (N := 8) hx hb hts hin hown hK hP 0 rfl rfl 5 (by decide) (hts (.fieldLink RX0 25 "OddsSampling" "factCount" "I") (by decide +kernel)) (fun _ h9 => h9) rfl dX0_fact_23 ?_
      refine lv_istore_n (lv' := [(3, .int (nI fn)), (0, .ref h), (1, .int up), (2, .int dn)]) hx hb dX0_fact_26 rfl hl (by decide) rfl (fun ls hl => ?_)
      refine lv_aload_n hx hb dX0_fact_27 rfl (lv_at hl 1 rfl) ?_
      refine lv_dup hx hb dX0_fact_28 rfl ?_
      refine va_get (D := D) (ci := 0) (v := .int (nI fn)) (C := RX0) (T := TX0) (N := 8) hx hb hts hin hown hK hP 0 rfl rfl 5 (by decide) (hts (.fieldLink RX0 25 "OddsSampling" "factCount" "I") (by decide +kernel)) (fun _ h9 => h9) rfl dX0_fact_29 ?_
      refine lv_iconst (v := (1 : Int32)) hx hb dX0_fact_32 (by decide) ?_
      refine lv_iadd hx hb dX0_fact_33 ?_
      refine oo_topI (y := nI (fn + 1)) (nI_1 fn) ?_
      refine va_put (D := D) (ci := 0) (v := .int (nI (fn + 1))) (ty := .int) (C := RX0) (T := TX0) (N := 8) hx hb hts hin tyX0 tyX0_ok nmX0 hown hK hP hD hS 0 rfl rfl 5 (by decide) (hts (.fieldLink RX0 25 "OddsSampling" "factCount" "I") (by decide +kernel)) (fun _ h9 => h9) rfl (by decide +kernel) rfl rfl (Nat.le_of_ble_eq_true rfl) dX0_fact_34 (fun H locs hP hD hS => ?_)
      have hP : va_P D vwCl (xW cJ h a1 a2 a3 a4 a5 u d lw uw an (nI (fn + 1)) (nI qn) sd) H := hP
      have hD : va_D _ (xW cJ h a1 a2 a3 a4 a5 u d lw uw an (nI (fn + 1)) (nI qn) sd) := hD
      refine lv_aload_n hx hb dX0_fact_37 rfl (lv_at hl 1 rfl) ?_
      refine lv_iload_n hx hb dX0_fact_38 rfl (lv_at hl 0 rfl) ?_
      refine lv_iload_n hx hb dX0_fact_39 rfl (lv_at hl 2 rfl) ?_
      refine lv_i2l hx hb dX0_fact_40 rfl ?_
      refine lv_iload_n hx hb dX0_fact_41 rfl (lv_at hl 3 rfl) ?_
      refine lv_i2l hx hb dX0_fact_42 rfl ?_
      refine mu_callv (va_runV (As := [.int (nI fn), .long up.toInt64, .long dn.toInt64]) (rest := []) ⟨hx, hb, hml, hown, hts⟩ (kX0_putOdds l D cJ h a1 a2 a3 a4 a5 u d lw uw an (fn + 1) qn sd (nI fn) up.toInt64 dn.toInt64 _) (cwV 3 hts gX0_fact_X0_putOdds rfl rfl rfl ok_X0_putOdds ⟨Nat.le_of_ble_eq_true rfl, Nat.le_of_ble_eq_true rfl⟩) ⟨oo_blindM, va_recv hK hP (ci := 0) (q0 := 0) rfl rfl, oo_psM hP hD hK [0, 1, 2, 3, 4, 5] rfl rfl [0] rfl⟩ rfl rfl hl.1 rfl (lv_room (Nat.le_of_ble_eq_true rfl)) dX0_fact_43 ⟨Nat.le_of_ble_eq_true rfl, Nat.le_of_ble_eq_true rfl⟩) hP hD hS hA [0, 1, 2, 3, 4, 5] rfl (oo_fc (oo_fc (oo_fc (oo_fc (oo_fc (oo_fc rfl)))))) (fun H locs hP hD hS => ?_)
      have hP : va_P D vwCl (xW cJ h a1 a2 a3 a4 a5 (kvX0_put_c0 12 u (nI fn) up.toInt64) (kvX0_put_c0 12 d (nI fn) dn.toInt64) (kl_whO (kvX0_put_c0 12 u (nI fn) up.toInt64) (kvX0_put_c0 12 d (nI fn) dn.toInt64) (0 : Int32) lw 6) (kl_whO (kvX0_put_c0 12 u (nI fn) up.toInt64) (kvX0_put_c0 12 d (nI fn) dn.toInt64) (nI 6) uw 6) an (nI (fn + 1)) (nI qn) sd) H := hP
      have hD : va_D _ (xW cJ h a1 a2 a3 a4 a5 (kvX0_put_c0 12 u (nI fn) up.toInt64) (kvX0_put_c0 12 d (nI fn) dn.toInt64) (kl_whO (kvX0_put_c0 12 u (nI fn) up.toInt64) (kvX0_put_c0 12 d (nI fn) dn.toInt64) (0 : Int32) lw 6) (kl_whO (kvX0_put_c0 12 u (nI fn) up.toInt64) (kvX0_put_c0 12 d (nI fn) dn.toInt64) (nI 6) uw 6) an (nI (fn + 1)) (nI qn) sd) := hD
      refine lv_iload_n hx hb dX0_fact_46 rfl (lv_at hl 0 rfl) ?_
      have hP := Eq.mp (congrArg (fun z9 => va_P D vwCl (xW cJ h a1 a2 a3 a4 a5 (kvX0_put_c0 12 u (nI fn) up.toInt64) (kvX0_put_c0 12 d (nI fn) dn.toInt64) (kl_whO (kvX0_put_c0 12 u (nI fn) up.toInt64) (kvX0_put_c0 12 d (nI fn) dn.toInt64) (0 : Int32) lw 6) (kl_whO (kvX0_put_c0 12 u (nI fn) up.toInt64) (kvX0_put_c0 12 d (nI fn) dn.toInt64) (nI 6) uw 6) an z9 (nI qn) sd) H) (show nI (fn + 1) = kvX0_fact_fc fn up dn from (by unfold kvX0_fact_fc; rw [if_neg c_5, if_pos c_16]))) hP
      have hP := Eq.mp (congrArg (fun z9 => va_P D vwCl (xW cJ h a1 a2 a3 a4 a5 z9 (kvX0_put_c0 12 d (nI fn) dn.toInt64) (kl_whO (kvX0_put_c0 12 u (nI fn) up.toInt64) (kvX0_put_c0 12 d (nI fn) dn.toInt64) (0 : Int32) lw 6) (kl_whO (kvX0_put_c0 12 u (nI fn) up.toInt64) (kvX0_put_c0 12 d (nI fn) dn.toInt64) (nI 6) uw 6) an (kvX0_fact_fc fn up dn) (nI qn) sd) H) (show (kvX0_put_c0 12 u (nI fn) up.toInt64) = kvX0_fact_u u fn up dn from (by unfold kvX0_fact_u; rw [if_neg c_5, if_pos c_16]))) hP
      have hP := Eq.mp (congrArg (fun z9 => va_P D vwCl (xW cJ h a1 a2 a3 a4 a5 (kvX0_fact_u u fn up dn) z9 (kl_whO (kvX0_put_c0 12 u (nI fn) up.toInt64) (kvX0_put_c0 12 d (nI fn) dn.toInt64) (0 : Int32) lw 6) (kl_whO (kvX0_put_c0 12 u (nI fn) up.toInt64) (kvX0_put_c0 12 d (nI fn) dn.toInt64) (nI 6) uw 6) an (kvX0_fact_fc fn up dn) (nI qn) sd) H) (show (kvX0_put_c0 12 d (nI fn) dn.toInt64) = kvX0_fact_d d fn up dn from (by unfold kvX0_fact_d; rw [if_neg c_5, if_pos c_16]))) hP
      have hP := Eq.mp (congrArg (fun z9 => va_P D vwCl (xW cJ h a1 a2 a3 a4 a5 (kvX0_fact_u u fn up dn) (kvX0_fact_d d fn up dn) z9 (kl_whO (kvX0_put_c0 12 u (nI fn) up.toInt64) (kvX0_put_c0 12 d (nI fn) dn.toInt64) (nI 6) uw 6) an (kvX0_fact_fc fn up dn) (nI qn) sd) H) (show kl_whO (kvX0_put_c0 12 u (nI fn) up.toInt64) (kvX0_put_c0 12 d (nI fn) dn.toInt64) (0 : Int32) lw 6 = kvX0_fact_lw u d lw fn up dn from (by unfold kvX0_fact_lw; rw [if_neg c_5, if_pos c_16]))) hP
      have hP := Eq.mp (congrArg (fun z9 => va_P D vwCl (xW cJ h a1 a2 a3 a4 a5 (kvX0_fact_u u fn up dn) (kvX0_fact_d d fn up dn) (kvX0_fact_lw u d lw fn up dn) z9 an (kvX0_fact_fc fn up dn) (nI qn) sd) H) (show kl_whO (kvX0_put_c0 12 u (nI fn) up.toInt64) (kvX0_put_c0 12 d (nI fn) dn.toInt64) (nI 6) uw 6 = kvX0_fact_uw u d uw fn up dn from (by unfold kvX0_fact_uw; rw [if_neg c_5, if_pos c_16]))) hP
      have hP : va_P D vwCl (xW cJ h a1 a2 a3 a4 a5 (kvX0_fact_u u fn up dn) (kvX0_fact_d d fn up dn) (kvX0_fact_lw u d lw fn up dn) (kvX0_fact_uw u d uw fn up dn) an (kvX0_fact_fc fn up dn) (nI qn) sd) H := hP
      have hD : va_D _ (xW cJ h a1 a2 a3 a4 a5 (kvX0_fact_u u fn up dn) (kvX0_fact_d d fn up dn) (kvX0_fact_lw u d lw fn up dn) (kvX0_fact_uw u d uw fn up dn) an (kvX0_fact_fc fn up dn) (nI qn) sd) := oo_Dre hD (oo_fc (oo_fc (oo_fc (oo_fc (oo_fc (oo_fc rfl))))))
      exact mu_reti hx hb hr hlocks hP hD hS (by unfold kvX0_fact; rw [if_neg c_5, if_pos c_16]) dX0_fact_47
    · refine lv_bipush (v := (-3 : Int32)) hx hb dX0_fact_19 (by decide) ?_
      have hP := Eq.mp (congrArg (fun z9 => va_P D vwCl (xW cJ h a1 a2 a3 a4 a5 u d lw uw an z9 (nI qn) sd) H) (show nI fn = kvX0_fact_fc fn up dn from (by unfold kvX0_fact_fc; rw [if_neg c_5, if_neg c_16]))) hP
      have hP := Eq.mp (congrArg (fun z9 => va_P D vwCl (xW cJ h a1 a2 a3 a4 a5 z9 d lw uw an (kvX0_fact_fc fn up dn) (nI qn) sd) H) (show u = kvX0_fact_u u fn up dn from (by unfold kvX0_fact_u; rw [if_neg c_5, if_neg c_16]))) hP
      have hP := Eq.mp (congrArg (fun z9 => va_P D vwCl (xW cJ h a1 a2 a3 a4 a5 (kvX0_fact_u u fn up dn) z9 lw uw an (kvX0_fact_fc fn up dn) (nI qn) sd) H) (show d = kvX0_fact_d d fn up dn from (by unfold kvX0_fact_d; rw [if_neg c_5, if_neg c_16]))) hP
      have hP := Eq.mp (congrArg (fun z9 => va_P D vwCl (xW cJ h a1 a2 a3 a4 a5 (kvX0_fact_u u fn up dn) (kvX0_fact_d d fn up dn) z9 uw an (kvX0_fact_fc fn up dn) (nI qn) sd) H) (show lw = kvX0_fact_lw u d lw fn up dn from (by unfold kvX0_fact_lw; rw [if_neg c_5, if_neg c_16]))) hP
      have hP := Eq.mp (congrArg (fun z9 => va_P D vwCl (xW cJ h a1 a2 a3 a4 a5 (kvX0_fact_u u fn up dn) (kvX0_fact_d d fn up dn) (kvX0_fact_lw u d lw fn up dn) z9 an (kvX0_fact_fc fn up dn) (nI qn) sd) H) (show uw = kvX0_fact_uw u d uw fn up dn from (by unfold kvX0_fact_uw; rw [if_neg c_5, if_neg c_16]))) hP
      have hP : va_P D vwCl (xW cJ h a1 a2 a3 a4 a5 (kvX0_fact_u u fn up dn) (kvX0_fact_d d fn up dn) (kvX0_fact_lw u d lw fn up dn) (kvX0_fact_uw u d uw fn up dn) an (kvX0_fact_fc fn up dn) (nI qn) sd) H := hP
      have hD : va_D _ (xW cJ h a1 a2 a3 a4 a5 (kvX0_fact_u u fn up dn) (kvX0_fact_d d fn up dn) (kvX0_fact_lw u d lw fn up dn) (kvX0_fact_uw u d uw fn up dn) an (kvX0_fact_fc fn up dn) (nI qn) sd) := oo_Dre hD (oo_fc (oo_fc (oo_fc (oo_fc (oo_fc (oo_fc rfl))))))
      exact mu_reti hx hb hr hlocks hP hD hS (by unfold kvX0_fact; rw [if_neg c_5, if_neg c_16]) dX0_fact_21
  · refine lv_iconst (v := (-1 : Int32)) hx hb dX0_fact_8 (by decide) ?_
    have hP := Eq.mp (congrArg (fun z9 => va_P D vwCl (xW cJ h a1 a2 a3 a4 a5 u d lw uw an z9 (nI qn) sd) H) (show nI fn = kvX0_fact_fc fn up dn from (by unfold kvX0_fact_fc; rw [if_pos c_5]))) hP
    have hP := Eq.mp (congrArg (fun z9 => va_P D vwCl (xW cJ h a1 a2 a3 a4 a5 z9 d lw uw an (kvX0_fact_fc fn up dn) (nI qn) sd) H) (show u = kvX0_fact_u u fn up dn from (by unfold kvX0_fact_u; rw [if_pos c_5]))) hP
    have hP := Eq.mp (congrArg (fun z9 => va_P D vwCl (xW cJ h a1 a2 a3 a4 a5 (kvX0_fact_u u fn up dn) z9 lw uw an (kvX0_fact_fc fn up dn) (nI qn) sd) H) (show d = kvX0_fact_d d fn up dn from (by unfold kvX0_fact_d; rw [if_pos c_5]))) hP
    have hP := Eq.mp (congrArg (fun z9 => va_P D vwCl (xW cJ h a1 a2 a3 a4 a5 (kvX0_fact_u u fn up dn) (kvX0_fact_d d fn up dn) z9 uw an (kvX0_fact_fc fn up dn) (nI qn) sd) H) (show lw = kvX0_fact_lw u d lw fn up dn from (by unfold kvX0_fact_lw; rw [if_pos c_5]))) hP
    have hP := Eq.mp (congrArg (fun z9 => va_P D vwCl (xW cJ h a1 a2 a3 a4 a5 (kvX0_fact_u u fn up dn) (kvX0_fact_d d fn up dn) (kvX0_fact_lw u d lw fn up dn) z9 an (kvX0_fact_fc fn up dn) (nI qn) sd) H) (show uw = kvX0_fact_uw u d uw fn up dn from (by unfold kvX0_fact_uw; rw [if_pos c_5]))) hP
    have hP : va_P D vwCl (xW cJ h a1 a2 a3 a4 a5 (kvX0_fact_u u fn up dn) (kvX0_fact_d d fn up dn) (kvX0_fact_lw u d lw fn up dn) (kvX0_fact_uw u d uw fn up dn) an (kvX0_fact_fc fn up dn) (nI qn) sd) H := hP
    have hD : va_D _ (xW cJ h a1 a2 a3 a4 a5 (kvX0_fact_u u fn up dn) (kvX0_fact_d d fn up dn) (kvX0_fact_lw u d lw fn up dn) (kvX0_fact_uw u d uw fn up dn) an (kvX0_fact_fc fn up dn) (nI qn) sd) := oo_Dre hD (oo_fc (oo_fc (oo_fc (oo_fc (oo_fc (oo_fc rfl))))))
    exact mu_reti hx hb hr hlocks hP hD hS (by unfold kvX0_fact; rw [if_pos c_5]) dX0_fact_9
theorem ok_X0_odds : yX0_odds.cls = RX0 ∧ yX0_odds.cls ≠ "java/lang/invoke/MethodHandle" ∧ yX0_odds.cls ≠ "java/lang/invoke/VarHandle" ∧ (parseMethodDescriptor yX0_odds.desc).map (fun d => d.parameters.length) = some 3 := by decide +kernel
def kvX0_odds (fn : Nat) (k : Int32) (up : Int32) (dn : Int32) : Int32 := if (kvX0_isFact fn k) = 0 then (-1 : Int32) else (if (kvX0_areOdds up dn) = 0 then (-1 : Int32) else (1 : Int32))
def kvX0_odds_u (u : Nat → Int64) (fn : Nat) (k : Int32) (up : Int32) (dn : Int32) : Nat → Int64 := if (kvX0_isFact fn k) = 0 then u else (if (kvX0_areOdds up dn) = 0 then u else (kvX0_put_c0 12 u k up.toInt64))
def kvX0_odds_d (d : Nat → Int64) (fn : Nat) (k : Int32) (up : Int32) (dn : Int32) : Nat → Int64 := if (kvX0_isFact fn k) = 0 then d else (if (kvX0_areOdds up dn) = 0 then d else (kvX0_put_c0 12 d k dn.toInt64))
def kvX0_odds_lw (u : Nat → Int64) (d : Nat → Int64) (lw : Nat → Int64) (fn : Nat) (k : Int32) (up : Int32) (dn : Int32) : Nat → Int64 := if (kvX0_isFact fn k) = 0 then lw else (if (kvX0_areOdds up dn) = 0 then lw else (kl_whO (kvX0_put_c0 12 u k up.toInt64) (kvX0_put_c0 12 d k dn.toInt64) (0 : Int32) lw 6))
def kvX0_odds_uw (u : Nat → Int64) (d : Nat → Int64) (uw : Nat → Int64) (fn : Nat) (k : Int32) (up : Int32) (dn : Int32) : Nat → Int64 := if (kvX0_isFact fn k) = 0 then uw else (if (kvX0_areOdds up dn) = 0 then uw else (kl_whO (kvX0_put_c0 12 u k up.toInt64) (kvX0_put_c0 12 d k dn.toInt64) (nI 6) uw 6))
set_option maxHeartbeats 4000000 in
set_option maxRecDepth 100000 in
theorem kX0_odds (l : Launch) (D : va_G) (cJ : ClassId) (h a1 a2 a3 a4 a5 : Nat) (u d lw uw an : Nat → Int64) (fn qn : Nat) (sd : Int64) (k : Int32) (up : Int32) (dn : Int32) : MuI l yX0_odds wsX0_odds ({ frames := 4, cells := 0, slots := 0, locals := 99 } : Room) [.ref h, .int k, .int up, .int dn] D (xW cJ h a1 a2 a3 a4 a5 u d lw uw an (nI fn) (nI qn) sd) [(cJ, .long)] (xW cJ h a1 a2 a3 a4 a5 (kvX0_odds_u u fn k up dn) (kvX0_odds_d d fn k up dn) (kvX0_odds_lw u d lw fn k up dn) (kvX0_odds_uw u d uw fn k up dn) an (nI fn) (nI qn) sd) (kvX0_odds fn k up dn) := by
  intro sz
  refine oo_head (C := RX0) (cc := cX0_odds) (maxL := 4) (ret := (some .int)) (by decide) rfl rfl (Nat.le_of_ble_eq_true rfl) ?_
  intro p e s m below meth c hx hb hr hlocks hml hown hnm hts hpre ls hl
  have hl : lv_has ls 4 [(0, .ref h), (1, .int k), (2, .int up), (3, .int dn)] := hl
  obtain ⟨rfl, hP, hK, hD0⟩ := hpre
  have hD := hD0.self (sz := s.heap.size)
  have hA := oo_A (xW cJ h a1 a2 a3 a4 a5 u d lw uw an (nI fn) (nI qn) sd) s
  have hS : va_S (va_A (xW cJ h a1 a2 a3 a4 a5 u d lw uw an (nI fn) (nI qn) sd) s.heap.size) s.heap s.heap [] := va_S.rf
  refine lv_aload_n hx hb dX0_odds_0 rfl (lv_at hl 0 rfl) ?_
  refine lv_iload_n hx hb dX0_odds_1 rfl (lv_at hl 1 rfl) ?_
  refine ro_calli (va_runV (As := [.int k]) (rest := []) ⟨hx, hb, hml, hown, hts⟩ (kX0_isFact l D cJ h a1 a2 a3 a4 a5 u d lw uw an fn qn sd k) (cwV 1 hts gX0_odds_X0_isFact rfl rfl rfl ok_X0_isFact ⟨Nat.le_of_ble_eq_true rfl, Nat.le_of_ble_eq_true rfl⟩) ⟨oo_blind, va_recv hK hP (ci := 0) (q0 := 0) rfl rfl, oo_ps hP hK [0, 1, 2, 3, 4, 5] rfl [0] rfl⟩ rfl rfl hl.1 rfl (lv_room (Nat.le_of_ble_eq_true rfl)) dX0_odds_2 ⟨Nat.le_of_ble_eq_true rfl, Nat.le_of_ble_eq_true rfl⟩) hP hS (fun H locs hP hS => ?_)
  refine lv_if_eq (tgt := 16) hx hb dX0_odds_5 (by decide) (fun c_5 => ?_) (fun c_5 => ?_)
  · refine lv_iconst (v := (-1 : Int32)) hx hb dX0_odds_16 (by decide) ?_
    have hP := Eq.mp (congrArg (fun z9 => va_P D vwCl (xW cJ h a1 a2 a3 a4 a5 z9 d lw uw an (nI fn) (nI qn) sd) H) (show u = kvX0_odds_u u fn k up dn from (by unfold kvX0_odds_u; rw [if_pos c_5]))) hP
    have hP := Eq.mp (congrArg (fun z9 => va_P D vwCl (xW cJ h a1 a2 a3 a4 a5 (kvX0_odds_u u fn k up dn) z9 lw uw an (nI fn) (nI qn) sd) H) (show d = kvX0_odds_d d fn k up dn from (by unfold kvX0_odds_d; rw [if_pos c_5]))) hP
    have hP := Eq.mp (congrArg (fun z9 => va_P D vwCl (xW cJ h a1 a2 a3 a4 a5 (kvX0_odds_u u fn k up dn) (kvX0_odds_d d fn k up dn) z9 uw an (nI fn) (nI qn) sd) H) (show lw = kvX0_odds_lw u d lw fn k up dn from (by unfold kvX0_odds_lw; rw [if_pos c_5]))) hP
    have hP := Eq.mp (congrArg (fun z9 => va_P D vwCl (xW cJ h a1 a2 a3 a4 a5 (kvX0_odds_u u fn k up dn) (kvX0_odds_d d fn k up dn) (kvX0_odds_lw u d lw fn k up dn) z9 an (nI fn) (nI qn) sd) H) (show uw = kvX0_odds_uw u d uw fn k up dn from (by unfold kvX0_odds_uw; rw [if_pos c_5]))) hP
    have hP : va_P D vwCl (xW cJ h a1 a2 a3 a4 a5 (kvX0_odds_u u fn k up dn) (kvX0_odds_d d fn k up dn) (kvX0_odds_lw u d lw fn k up dn) (kvX0_odds_uw u d uw fn k up dn) an (nI fn) (nI qn) sd) H := hP
    have hD : va_D _ (xW cJ h a1 a2 a3 a4 a5 (kvX0_odds_u u fn k up dn) (kvX0_odds_d d fn k up dn) (kvX0_odds_lw u d lw fn k up dn) (kvX0_odds_uw u d uw fn k up dn) an (nI fn) (nI qn) sd) := oo_Dre hD (oo_fc (oo_fc (oo_fc (oo_fc (oo_fc (oo_fc rfl))))))
    exact mu_reti hx hb hr hlocks hP hD hS (by unfold kvX0_odds; rw [if_pos c_5]) dX0_odds_17
  · refine lv_iload_n hx hb dX0_odds_8 rfl (lv_at hl 2 rfl) ?_
    refine lv_iload_n hx hb dX0_odds_9 rfl (lv_at hl 3 rfl) ?_
    refine ro_calli (va_runS (As := [.int up, .int dn]) (rest := []) ⟨hx, hb, hml, hown, hts⟩ (kX0_areOdds l D up dn) (va_cwS 2 hts gX0_odds_X0_areOdds rfl rfl rfl ok_X0_areOdds ⟨Nat.le_of_ble_eq_true rfl, Nat.le_of_ble_eq_true rfl⟩) ⟨oo_blind, oo_ps hP hK [] rfl [] rfl⟩ rfl rfl hl.1 rfl (lv_room (Nat.le_of_ble_eq_true rfl)) dX0_odds_10 ⟨Nat.le_of_ble_eq_true rfl, Nat.le_of_ble_eq_true rfl⟩) hP hS (fun H locs hP hS => ?_)
    refine lv_if_ne (tgt := 18) hx hb dX0_odds_13 (by decide) (fun c_13 => ?_) (fun c_13 => ?_)
    · refine lv_aload_n hx hb dX0_odds_18 rfl (lv_at hl 0 rfl) ?_
      refine lv_iload_n hx hb dX0_odds_19 rfl (lv_at hl 1 rfl) ?_
      refine lv_iload_n hx hb dX0_odds_20 rfl (lv_at hl 2 rfl) ?_
      refine lv_i2l hx hb dX0_odds_21 rfl ?_
      refine lv_iload_n hx hb dX0_odds_22 rfl (lv_at hl 3 rfl) ?_
      refine lv_i2l hx hb dX0_odds_23 rfl ?_
      refine mu_callv (va_runV (As := [.int k, .long up.toInt64, .long dn.toInt64]) (rest := []) ⟨hx, hb, hml, hown, hts⟩ (kX0_putOdds l D cJ h a1 a2 a3 a4 a5 u d lw uw an fn qn sd k up.toInt64 dn.toInt64 _) (cwV 3 hts gX0_odds_X0_putOdds rfl rfl rfl ok_X0_putOdds ⟨Nat.le_of_ble_eq_true rfl, Nat.le_of_ble_eq_true rfl⟩) ⟨oo_blindM, va_recv hK hP (ci := 0) (q0 := 0) rfl rfl, oo_psM hP hD hK [0, 1, 2, 3, 4, 5] rfl rfl [0] rfl⟩ rfl rfl hl.1 rfl (lv_room (Nat.le_of_ble_eq_true rfl)) dX0_odds_24 ⟨Nat.le_of_ble_eq_true rfl, Nat.le_of_ble_eq_true rfl⟩) hP hD hS hA [0, 1, 2, 3, 4, 5] rfl (oo_fc (oo_fc (oo_fc (oo_fc (oo_fc (oo_fc rfl)))))) (fun H locs hP hD hS => ?_)
      have hP : va_P D vwCl (xW cJ h a1 a2 a3 a4 a5 (kvX0_put_c0 12 u k up.toInt64) (kvX0_put_c0 12 d k dn.toInt64) (kl_whO (kvX0_put_c0 12 u k up.toInt64) (kvX0_put_c0 12 d k dn.toInt64) (0 : Int32) lw 6) (kl_whO (kvX0_put_c0 12 u k up.toInt64) (kvX0_put_c0 12 d k dn.toInt64) (nI 6) uw 6) an (nI fn) (nI qn) sd) H := hP
      have hD : va_D _ (xW cJ h a1 a2 a3 a4 a5 (kvX0_put_c0 12 u k up.toInt64) (kvX0_put_c0 12 d k dn.toInt64) (kl_whO (kvX0_put_c0 12 u k up.toInt64) (kvX0_put_c0 12 d k dn.toInt64) (0 : Int32) lw 6) (kl_whO (kvX0_put_c0 12 u k up.toInt64) (kvX0_put_c0 12 d k dn.toInt64) (nI 6) uw 6) an (nI fn) (nI qn) sd) := hD
      refine lv_iconst (v := (1 : Int32)) hx hb dX0_odds_27 (by decide) ?_
      have hP := Eq.mp (congrArg (fun z9 => va_P D vwCl (xW cJ h a1 a2 a3 a4 a5 z9 (kvX0_put_c0 12 d k dn.toInt64) (kl_whO (kvX0_put_c0 12 u k up.toInt64) (kvX0_put_c0 12 d k dn.toInt64) (0 : Int32) lw 6) (kl_whO (kvX0_put_c0 12 u k up.toInt64) (kvX0_put_c0 12 d k dn.toInt64) (nI 6) uw 6) an (nI fn) (nI qn) sd) H) (show (kvX0_put_c0 12 u k up.toInt64) = kvX0_odds_u u fn k up dn from (by unfold kvX0_odds_u; rw [if_neg c_5, if_neg c_13]))) hP
      have hP := Eq.mp (congrArg (fun z9 => va_P D vwCl (xW cJ h a1 a2 a3 a4 a5 (kvX0_odds_u u fn k up dn) z9 (kl_whO (kvX0_put_c0 12 u k up.toInt64) (kvX0_put_c0 12 d k dn.toInt64) (0 : Int32) lw 6) (kl_whO (kvX0_put_c0 12 u k up.toInt64) (kvX0_put_c0 12 d k dn.toInt64) (nI 6) uw 6) an (nI fn) (nI qn) sd) H) (show (kvX0_put_c0 12 d k dn.toInt64) = kvX0_odds_d d fn k up dn from (by unfold kvX0_odds_d; rw [if_neg c_5, if_neg c_13]))) hP
      have hP := Eq.mp (congrArg (fun z9 => va_P D vwCl (xW cJ h a1 a2 a3 a4 a5 (kvX0_odds_u u fn k up dn) (kvX0_odds_d d fn k up dn) z9 (kl_whO (kvX0_put_c0 12 u k up.toInt64) (kvX0_put_c0 12 d k dn.toInt64) (nI 6) uw 6) an (nI fn) (nI qn) sd) H) (show kl_whO (kvX0_put_c0 12 u k up.toInt64) (kvX0_put_c0 12 d k dn.toInt64) (0 : Int32) lw 6 = kvX0_odds_lw u d lw fn k up dn from (by unfold kvX0_odds_lw; rw [if_neg c_5, if_neg c_13]))) hP
      have hP := Eq.mp (congrArg (fun z9 => va_P D vwCl (xW cJ h a1 a2 a3 a4 a5 (kvX0_odds_u u fn k up dn) (kvX0_odds_d d fn k up dn) (kvX0_odds_lw u d lw fn k up dn) z9 an (nI fn) (nI qn) sd) H) (show kl_whO (kvX0_put_c0 12 u k up.toInt64) (kvX0_put_c0 12 d k dn.toInt64) (nI 6) uw 6 = kvX0_odds_uw u d uw fn k up dn from (by unfold kvX0_odds_uw; rw [if_neg c_5, if_neg c_13]))) hP
      have hP : va_P D vwCl (xW cJ h a1 a2 a3 a4 a5 (kvX0_odds_u u fn k up dn) (kvX0_odds_d d fn k up dn) (kvX0_odds_lw u d lw fn k up dn) (kvX0_odds_uw u d uw fn k up dn) an (nI fn) (nI qn) sd) H := hP
      have hD : va_D _ (xW cJ h a1 a2 a3 a4 a5 (kvX0_odds_u u fn k up dn) (kvX0_odds_d d fn k up dn) (kvX0_odds_lw u d lw fn k up dn) (kvX0_odds_uw u d uw fn k up dn) an (nI fn) (nI qn) sd) := oo_Dre hD (oo_fc (oo_fc (oo_fc (oo_fc (oo_fc (oo_fc rfl))))))
      exact mu_reti hx hb hr hlocks hP hD hS (by unfold kvX0_odds; rw [if_neg c_5, if_neg c_13]) dX0_odds_28
    · refine lv_iconst (v := (-1 : Int32)) hx hb dX0_odds_16 (by decide) ?_
      have hP := Eq.mp (congrArg (fun z9 => va_P D vwCl (xW cJ h a1 a2 a3 a4 a5 z9 d lw uw an (nI fn) (nI qn) sd) H) (show u = kvX0_odds_u u fn k up dn from (by unfold kvX0_odds_u; rw [if_neg c_5, if_pos c_13]))) hP
      have hP := Eq.mp (congrArg (fun z9 => va_P D vwCl (xW cJ h a1 a2 a3 a4 a5 (kvX0_odds_u u fn k up dn) z9 lw uw an (nI fn) (nI qn) sd) H) (show d = kvX0_odds_d d fn k up dn from (by unfold kvX0_odds_d; rw [if_neg c_5, if_pos c_13]))) hP
      have hP := Eq.mp (congrArg (fun z9 => va_P D vwCl (xW cJ h a1 a2 a3 a4 a5 (kvX0_odds_u u fn k up dn) (kvX0_odds_d d fn k up dn) z9 uw an (nI fn) (nI qn) sd) H) (show lw = kvX0_odds_lw u d lw fn k up dn from (by unfold kvX0_odds_lw; rw [if_neg c_5, if_pos c_13]))) hP
      have hP := Eq.mp (congrArg (fun z9 => va_P D vwCl (xW cJ h a1 a2 a3 a4 a5 (kvX0_odds_u u fn k up dn) (kvX0_odds_d d fn k up dn) (kvX0_odds_lw u d lw fn k up dn) z9 an (nI fn) (nI qn) sd) H) (show uw = kvX0_odds_uw u d uw fn k up dn from (by unfold kvX0_odds_uw; rw [if_neg c_5, if_pos c_13]))) hP
      have hP : va_P D vwCl (xW cJ h a1 a2 a3 a4 a5 (kvX0_odds_u u fn k up dn) (kvX0_odds_d d fn k up dn) (kvX0_odds_lw u d lw fn k up dn) (kvX0_odds_uw u d uw fn k up dn) an (nI fn) (nI qn) sd) H := hP
      have hD : va_D _ (xW cJ h a1 a2 a3 a4 a5 (kvX0_odds_u u fn k up dn) (kvX0_odds_d d fn k up dn) (kvX0_odds_lw u d lw fn k up dn) (kvX0_odds_uw u d uw fn k up dn) an (nI fn) (nI qn) sd) := oo_Dre hD (oo_fc (oo_fc (oo_fc (oo_fc (oo_fc (oo_fc rfl))))))
      exact mu_reti hx hb hr hlocks hP hD hS (by unfold kvX0_odds; rw [if_neg c_5, if_pos c_13]) dX0_odds_17
def kl_setA (an : Nat → Int64) (qn : Nat) (w wo : Int32) : Nat → Nat → Int64
  | 0 => an
  | n + 1 => kvX0_put_c0 2560 (kl_setA an qn w wo n) (nI qn * nI 64 + nI n) (kvX0_setBlock (nI n) w wo)
def kl_someA (an : Nat → Int64) (qn : Nat) (fs lo hi : Int32) : Nat → Nat → Int64
  | 0 => an
  | n + 1 => kvX0_put_c0 2560 (kl_someA an qn fs lo hi n) (nI qn * nI 64 + nI n) (kvX0_someBlock (nI n) fs lo hi)
