theorem ok_X1_thrown : yX1_thrown.cls = RX1 ∧ yX1_thrown.cls ≠ "java/lang/invoke/MethodHandle" ∧ yX1_thrown.cls ≠ "java/lang/invoke/VarHandle" ∧ (parseMethodDescriptor yX1_thrown.desc).map (fun d => d.parameters.length) = some 0 := by decide +kernel
def kvX1_thrown (th : Int32) : Int32 := th
set_option maxHeartbeats 4000000 in
set_option maxRecDepth 100000 in
theorem kX1_thrown (l : Launch) (D : va_G) (cI : ClassId) (cZ : ClassId) (h b1 b2 b3 : Nat) (u d tr : Nat → Int32) (fn qn : Nat) (sd : Int64) (th : Int32)  : RoI l yX1_thrown wsX1_thrown ({ frames := 0, cells := 0, slots := 0, locals := 0 } : Room) [.ref h] D (mW cI cZ h b1 b2 b3 u d tr (nI fn) (nI qn) sd th) [(cI, .int), (cZ, .boolean)] (kvX1_thrown th) := by
  refine oo_head (C := RX1) (cc := cX1_thrown) (maxL := 1) (ret := (some .int)) (by decide) rfl rfl (Nat.le_of_ble_eq_true rfl) ?_
  intro p e s m below meth c hx hb hr hlocks hml hown hnm hts hpre ls hl
  have hl : lv_has ls 1 [(0, .ref h)] := hl
  obtain ⟨hP, hK⟩ := hpre
  have hS : va_S oo_N s.heap s.heap [] := va_S.rf
  have hin : ∀ w ∈ wsX10, w ∈ wsX1_thrown := fun w h => List.mem_cons_of_mem _ (List.mem_append_right _ h)
  refine lv_aload_n hx hb dX1_thrown_0 rfl (lv_at hl 0 rfl) ?_
  refine va_get (D := D) (ci := 1) (v := .int th) (C := RX1) (T := TX1) (N := 7) hx hb hts hin hown hK hP 0 rfl rfl 6 (by decide) (hts (.fieldLink RX1 21 "OddsSamplingModel" "thrown" "I") (by decide +kernel)) (fun _ h9 => h9) rfl dX1_thrown_1 ?_
  exact ro_reti hx hb hr hlocks hS (by unfold kvX1_thrown; rfl) dX1_thrown_4
theorem ok_X1_areOdds : yX1_areOdds.cls ≠ "java/lang/invoke/MethodHandle" ∧ yX1_areOdds.cls ≠ "java/lang/invoke/VarHandle" ∧ (parseMethodDescriptor yX1_areOdds.desc).map (fun d => d.parameters.length) = some 2 := by decide +kernel
def kvX1_areOdds (up : Int32) (dn : Int32) : Int32 := if dn < (1 : Int32) then (0 : Int32) else (if (nI 8) < dn then (0 : Int32) else (if up < 0 then (0 : Int32) else (if dn < up then (0 : Int32) else (1 : Int32))))
set_option maxHeartbeats 4000000 in
set_option maxRecDepth 100000 in
theorem kX1_areOdds (l : Launch) (D : va_G) (up : Int32) (dn : Int32) : RoI l yX1_areOdds wsX1_areOdds ({ frames := 0, cells := 0, slots := 0, locals := 0 } : Room) [.int up, .int dn] D ([]) [] (kvX1_areOdds up dn) := by
  refine oo_head (C := RX1) (cc := cX1_areOdds) (maxL := 2) (ret := (some .boolean)) (by decide) rfl rfl (Nat.le_of_ble_eq_true rfl) ?_
  intro p e s m below meth c hx hb hr hlocks hml hown hnm hts hpre ls hl
  have hl : lv_has ls 2 [(0, .int up), (1, .int dn)] := hl
  obtain ⟨hP, hK⟩ := hpre
  have hS : va_S oo_N s.heap s.heap [] := va_S.rf
  refine lv_iload_n hx hb dX1_areOdds_0 rfl (lv_at hl 1 rfl) ?_
  refine lv_iconst (v := (1 : Int32)) hx hb dX1_areOdds_1 (by decide) ?_
  refine lv_icmp_lt (tgt := 24) hx hb dX1_areOdds_2 (by decide) (fun c_2 => ?_) (fun c_2 => ?_)
  · refine lv_iconst (v := (0 : Int32)) hx hb dX1_areOdds_24 (by decide) ?_
    exact ro_retz hx hb hr hlocks hS rfl (by unfold kvX1_areOdds; rw [if_pos c_2]) dX1_areOdds_25
  · refine lv_iload_n hx hb dX1_areOdds_5 rfl (lv_at hl 1 rfl) ?_
    refine lv_bipush (v := nI 8) hx hb dX1_areOdds_6 (by decide) ?_
    refine lv_icmp_gt (tgt := 24) hx hb dX1_areOdds_8 (by decide) (fun c_8 => ?_) (fun c_8 => ?_)
    · refine lv_iconst (v := (0 : Int32)) hx hb dX1_areOdds_24 (by decide) ?_
      exact ro_retz hx hb hr hlocks hS rfl (by unfold kvX1_areOdds; rw [if_neg c_2, if_pos c_8]) dX1_areOdds_25
    · refine lv_iload_n hx hb dX1_areOdds_11 rfl (lv_at hl 0 rfl) ?_
      refine lv_if_lt (tgt := 24) hx hb dX1_areOdds_12 (by decide) (fun c_12 => ?_) (fun c_12 => ?_)
      · refine lv_iconst (v := (0 : Int32)) hx hb dX1_areOdds_24 (by decide) ?_
        exact ro_retz hx hb hr hlocks hS rfl (by unfold kvX1_areOdds; rw [if_neg c_2, if_neg c_8, if_pos c_12]) dX1_areOdds_25
      · refine lv_iload_n hx hb dX1_areOdds_15 rfl (lv_at hl 0 rfl) ?_
        refine lv_iload_n hx hb dX1_areOdds_16 rfl (lv_at hl 1 rfl) ?_
        refine lv_icmp_gt (tgt := 24) hx hb dX1_areOdds_17 (by decide) (fun c_17 => ?_) (fun c_17 => ?_)
        · refine lv_iconst (v := (0 : Int32)) hx hb dX1_areOdds_24 (by decide) ?_
          exact ro_retz hx hb hr hlocks hS rfl (by unfold kvX1_areOdds; rw [if_neg c_2, if_neg c_8, if_neg c_12, if_pos c_17]) dX1_areOdds_25
        · refine lv_iconst (v := (1 : Int32)) hx hb dX1_areOdds_20 (by decide) ?_
          refine lv_goto (tgt := 25) hx hb dX1_areOdds_21 (by decide) ?_
          exact ro_retz hx hb hr hlocks hS rfl (by unfold kvX1_areOdds; rw [if_neg c_2, if_neg c_8, if_neg c_12, if_neg c_17]) dX1_areOdds_25
theorem ok_X1_isQuestion : yX1_isQuestion.cls = RX1 ∧ yX1_isQuestion.cls ≠ "java/lang/invoke/MethodHandle" ∧ yX1_isQuestion.cls ≠ "java/lang/invoke/VarHandle" ∧ (parseMethodDescriptor yX1_isQuestion.desc).map (fun d => d.parameters.length) = some 1 := by decide +kernel
def kvX1_isQuestion (qn : Nat) (q : Int32) : Int32 := if q < 0 then (0 : Int32) else (if (nI qn) ≤ q then (0 : Int32) else (1 : Int32))
set_option maxHeartbeats 4000000 in
set_option maxRecDepth 100000 in
theorem kX1_isQuestion (l : Launch) (D : va_G) (cI : ClassId) (cZ : ClassId) (h b1 b2 b3 : Nat) (u d tr : Nat → Int32) (fn qn : Nat) (sd : Int64) (th : Int32) (q : Int32) : RoI l yX1_isQuestion wsX1_isQuestion ({ frames := 0, cells := 0, slots := 0, locals := 0 } : Room) [.ref h, .int q] D (mW cI cZ h b1 b2 b3 u d tr (nI fn) (nI qn) sd th) [(cI, .int), (cZ, .boolean)] (kvX1_isQuestion qn q) := by
  refine oo_head (C := RX1) (cc := cX1_isQuestion) (maxL := 2) (ret := (some .boolean)) (by decide) rfl rfl (Nat.le_of_ble_eq_true rfl) ?_
  intro p e s m below meth c hx hb hr hlocks hml hown hnm hts hpre ls hl
  have hl : lv_has ls 2 [(0, .ref h), (1, .int q)] := hl
  obtain ⟨hP, hK⟩ := hpre
  have hS : va_S oo_N s.heap s.heap [] := va_S.rf
  have hin : ∀ w ∈ wsX10, w ∈ wsX1_isQuestion := fun w h => List.mem_cons_of_mem _ (List.mem_append_right _ h)
  refine lv_iload_n hx hb dX1_isQuestion_0 rfl (lv_at hl 1 rfl) ?_
  refine lv_if_lt (tgt := 16) hx hb dX1_isQuestion_1 (by decide) (fun c_1 => ?_) (fun c_1 => ?_)
  · refine lv_iconst (v := (0 : Int32)) hx hb dX1_isQuestion_16 (by decide) ?_
    exact ro_retz hx hb hr hlocks hS rfl (by unfold kvX1_isQuestion; rw [if_pos c_1]) dX1_isQuestion_17
  · refine lv_iload_n hx hb dX1_isQuestion_4 rfl (lv_at hl 1 rfl) ?_
    refine lv_aload_n hx hb dX1_isQuestion_5 rfl (lv_at hl 0 rfl) ?_
    refine va_get (D := D) (ci := 1) (v := .int (nI qn)) (C := RX1) (T := TX1) (N := 7) hx hb hts hin hown hK hP 0 rfl rfl 4 (by decide) (hts (.fieldLink RX1 25 "OddsSamplingModel" "questions" "I") (by decide +kernel)) (fun _ h9 => h9) rfl dX1_isQuestion_6 ?_
    refine lv_icmp_ge (tgt := 16) hx hb dX1_isQuestion_9 (by decide) (fun c_9 => ?_) (fun c_9 => ?_)
    · refine lv_iconst (v := (0 : Int32)) hx hb dX1_isQuestion_16 (by decide) ?_
      exact ro_retz hx hb hr hlocks hS rfl (by unfold kvX1_isQuestion; rw [if_neg c_1, if_pos c_9]) dX1_isQuestion_17
    · refine lv_iconst (v := (1 : Int32)) hx hb dX1_isQuestion_12 (by decide) ?_
      refine lv_goto (tgt := 17) hx hb dX1_isQuestion_13 (by decide) ?_
      exact ro_retz hx hb hr hlocks hS rfl (by unfold kvX1_isQuestion; rw [if_neg c_1, if_neg c_9]) dX1_isQuestion_17
def oo_01 (f : Nat → Int32) : Prop := ∀ j, f j = 0 ∨ f j = 1
theorem oo_vz0 : vp_nar .boolean 0 = 0 := by decide +kernel
theorem oo_vz1 : vp_nar .boolean 1 = 1 := by decide +kernel
theorem oo_nar {x : Int32} (h : x = 0 ∨ x = 1) : narrow .boolean (.int x) = .int x := by
  rcases h with rfl | rfl <;> rfl
theorem oo_isQ {qn : Nat} {q : Int32} (hqn : qn ≤ 40) (h : ¬ kvX1_isQuestion qn q = 0) : q = nI q.toNatClampNeg ∧ q.toNatClampNeg < qn := by
  unfold kvX1_isQuestion at h
  by_cases c1 : q < 0
  · rw [if_pos c1] at h; exact absurd rfl h
  · rw [if_neg c1] at h
    by_cases c2 : nI qn ≤ q
    · rw [if_pos c2] at h; exact absurd rfl h
    · obtain ⟨j, h3, rfl, -⟩ := pk_mu c1 c2 (by omega)
      rw [nI_clamp (by omega)]
      exact ⟨rfl, h3⟩
theorem oo_lt {k : Int32} {n : Nat} (hn : n ≤ 12) (c1 : ¬ k < 0) (c2 : ¬ nI n ≤ k) : k = nI k.toNatClampNeg ∧ k.toNatClampNeg < n := by
  obtain ⟨j, h3, rfl, -⟩ := pk_mu c1 c2 (by omega)
  rw [nI_clamp (by omega)]
  exact ⟨rfl, h3⟩
theorem oo_ne12 {n : Nat} (hn : n ≤ 12) (c : ¬ nI n = nI 12) : n < 12 := by
  rcases Nat.lt_or_ge n 12 with q | q
  · exact q
  · exact absurd (congrArg nI (show n = 12 by omega)) c
theorem oo_ne40 {n : Nat} (hn : n ≤ 40) (c : ¬ nI n = nI 40) : n < 40 := by
  rcases Nat.lt_or_ge n 40 with q | q
  · exact q
  · exact absurd (congrArg nI (show n = 40 by omega)) c
theorem ok_X1_areFacts : yX1_areFacts.cls = RX1 ∧ yX1_areFacts.cls ≠ "java/lang/invoke/MethodHandle" ∧ yX1_areFacts.cls ≠ "java/lang/invoke/VarHandle" ∧ (parseMethodDescriptor yX1_areFacts.desc).map (fun d => d.parameters.length) = some 1 := by decide +kernel
def kvX1_areFacts (fn : Nat) (bs : Int32) : Int32 := if bs < 0 then (0 : Int32) else (if (nI (2 ^ fn)) ≤ bs then (0 : Int32) else (1 : Int32))
set_option maxHeartbeats 4000000 in
set_option maxRecDepth 100000 in
theorem kX1_areFacts (l : Launch) (D : va_G) (cI : ClassId) (cZ : ClassId) (h b1 b2 b3 : Nat) (u d tr : Nat → Int32) (fn qn : Nat) (sd : Int64) (th : Int32) (bs : Int32) (hfn : fn ≤ 12) : RoI l yX1_areFacts wsX1_areFacts ({ frames := 0, cells := 0, slots := 0, locals := 0 } : Room) [.ref h, .int bs] D (mW cI cZ h b1 b2 b3 u d tr (nI fn) (nI qn) sd th) [(cI, .int), (cZ, .boolean)] (kvX1_areFacts fn bs) := by
  refine oo_head (C := RX1) (cc := cX1_areFacts) (maxL := 2) (ret := (some .boolean)) (by decide) rfl rfl (Nat.le_of_ble_eq_true rfl) ?_
  intro p e s m below meth c hx hb hr hlocks hml hown hnm hts hpre ls hl
  have hl : lv_has ls 2 [(0, .ref h), (1, .int bs)] := hl
  obtain ⟨hP, hK⟩ := hpre
  have hS : va_S oo_N s.heap s.heap [] := va_S.rf
  have hin : ∀ w ∈ wsX10, w ∈ wsX1_areFacts := fun w h => List.mem_cons_of_mem _ (List.mem_append_right _ h)
  refine lv_iload_n hx hb dX1_areFacts_0 rfl (lv_at hl 1 rfl) ?_
  refine lv_if_lt (tgt := 18) hx hb dX1_areFacts_1 (by decide) (fun c_1 => ?_) (fun c_1 => ?_)
  · refine lv_iconst (v := (0 : Int32)) hx hb dX1_areFacts_18 (by decide) ?_
    exact ro_retz hx hb hr hlocks hS rfl (by unfold kvX1_areFacts; rw [if_pos c_1]) dX1_areFacts_19
  · refine lv_iload_n hx hb dX1_areFacts_4 rfl (lv_at hl 1 rfl) ?_
    refine lv_iconst (v := (1 : Int32)) hx hb dX1_areFacts_5 (by decide) ?_
    refine lv_aload_n hx hb dX1_areFacts_6 rfl (lv_at hl 0 rfl) ?_
    refine va_get (D := D) (ci := 1) (v := .int (nI fn)) (C := RX1) (T := TX1) (N := 7) hx hb hts hin hown hK hP 0 rfl rfl 2 (by decide) (hts (.fieldLink RX1 28 "OddsSamplingModel" "facts" "I") (by decide +kernel)) (fun _ h9 => h9) rfl dX1_areFacts_7 ?_
    refine lv_ishl hx hb dX1_areFacts_10 ?_
    refine oo_topI (y := nI (2 ^ fn)) (oo_shl1 fn (by omega)) ?_
    refine lv_icmp_ge (tgt := 18) hx hb dX1_areFacts_11 (by decide) (fun c_11 => ?_) (fun c_11 => ?_)
    · refine lv_iconst (v := (0 : Int32)) hx hb dX1_areFacts_18 (by decide) ?_
      exact ro_retz hx hb hr hlocks hS rfl (by unfold kvX1_areFacts; rw [if_neg c_1, if_pos c_11]) dX1_areFacts_19
    · refine lv_iconst (v := (1 : Int32)) hx hb dX1_areFacts_14 (by decide) ?_
      refine lv_goto (tgt := 19) hx hb dX1_areFacts_15 (by decide) ?_
      exact ro_retz hx hb hr hlocks hS rfl (by unfold kvX1_areFacts; rw [if_neg c_1, if_neg c_11]) dX1_areFacts_19
theorem ok_X1_fact : yX1_fact.cls = RX1 ∧ yX1_fact.cls ≠ "java/lang/invoke/MethodHandle" ∧ yX1_fact.cls ≠ "java/lang/invoke/VarHandle" ∧ (parseMethodDescriptor yX1_fact.desc).map (fun d => d.parameters.length) = some 2 := by decide +kernel
def kvX1_fact (fn : Nat) (up : Int32) (dn : Int32) : Int32 := if (kvX1_areOdds up dn) = 0 then (-1 : Int32) else (if (nI fn) = (nI 12) then (-3 : Int32) else (nI fn))
def kvX1_fact_u (u : Nat → Int32) (fn : Nat) (up : Int32) (dn : Int32) : Nat → Int32 := if (kvX1_areOdds up dn) = 0 then u else (if (nI fn) = (nI 12) then u else (upd u fn up))
def kvX1_fact_d (d : Nat → Int32) (fn : Nat) (up : Int32) (dn : Int32) : Nat → Int32 := if (kvX1_areOdds up dn) = 0 then d else (if (nI fn) = (nI 12) then d else (upd d fn dn))
def kvX1_fact_fc (fn : Nat) (up : Int32) (dn : Int32) : Int32 := if (kvX1_areOdds up dn) = 0 then (nI fn) else (if (nI fn) = (nI 12) then (nI fn) else (nI (fn + 1)))
set_option maxHeartbeats 4000000 in
set_option maxRecDepth 100000 in
theorem kX1_fact (l : Launch) (D : va_G) (cI : ClassId) (cZ : ClassId) (h b1 b2 b3 : Nat) (u d tr : Nat → Int32) (fn qn : Nat) (sd : Int64) (th : Int32) (up : Int32) (dn : Int32) (hfn : fn ≤ 12) : MuI l yX1_fact wsX1_fact ({ frames := 1, cells := 0, slots := 0, locals := 21 } : Room) [.ref h, .int up, .int dn] D (mW cI cZ h b1 b2 b3 u d tr (nI fn) (nI qn) sd th) [(cI, .int), (cZ, .boolean)] (mW cI cZ h b1 b2 b3 (kvX1_fact_u u fn up dn) (kvX1_fact_d d fn up dn) tr (kvX1_fact_fc fn up dn) (nI qn) sd (0 : Int32)) (kvX1_fact fn up dn) := by
  intro sz
  refine oo_head (C := RX1) (cc := cX1_fact) (maxL := 3) (ret := (some .int)) (by decide) rfl rfl (Nat.le_of_ble_eq_true rfl) ?_
  intro p e s m below meth c hx hb hr hlocks hml hown hnm hts hpre ls hl
  have hl : lv_has ls 3 [(0, .ref h), (1, .int up), (2, .int dn)] := hl
  obtain ⟨rfl, hP, hK, hD0⟩ := hpre
  have hD := hD0.self (sz := s.heap.size)
  have hA := oo_A (mW cI cZ h b1 b2 b3 u d tr (nI fn) (nI qn) sd th) s
  have hS : va_S (va_A (mW cI cZ h b1 b2 b3 u d tr (nI fn) (nI qn) sd th) s.heap.size) s.heap s.heap [] := va_S.rf
  have hin : ∀ w ∈ wsX10, w ∈ wsX1_fact := fun w h => List.mem_cons_of_mem _ (List.mem_append_right _ h)
  refine lv_aload_n hx hb dX1_fact_0 rfl (lv_at hl 0 rfl) ?_
  refine lv_iconst (v := (0 : Int32)) hx hb dX1_fact_1 (by decide) ?_
  refine va_put (D := D) (ci := 1) (v := .int (0 : Int32)) (ty := .int) (C := RX1) (T := TX1) (N := 7) hx hb hts hin tyX1 tyX1_ok nmX1 hown hK hP hD hS 0 rfl rfl 6 (by decide) (hts (.fieldLink RX1 21 "OddsSamplingModel" "thrown" "I") (by decide +kernel)) (fun _ h9 => h9) rfl (by decide +kernel) rfl rfl (Nat.le_of_ble_eq_true rfl) dX1_fact_2 (fun H locs hP hD hS => ?_)
  have hP : va_P D vwCl (mW cI cZ h b1 b2 b3 u d tr (nI fn) (nI qn) sd (0 : Int32)) H := hP
  have hD : va_D _ (mW cI cZ h b1 b2 b3 u d tr (nI fn) (nI qn) sd (0 : Int32)) := hD
  refine lv_iload_n hx hb dX1_fact_5 rfl (lv_at hl 1 rfl) ?_
  refine lv_iload_n hx hb dX1_fact_6 rfl (lv_at hl 2 rfl) ?_
  refine ro_calli (va_runS (As := [.int up, .int dn]) (rest := []) ⟨hx, hb, hml, hown, hts⟩ (kX1_areOdds l D up dn) (va_cwS 2 hts gX1_fact_X1_areOdds rfl rfl rfl ok_X1_areOdds ⟨Nat.le_of_ble_eq_true rfl, Nat.le_of_ble_eq_true rfl⟩) ⟨oo_blind, oo_ps hP hK [] rfl [] rfl⟩ rfl rfl hl.1 rfl (lv_room (Nat.le_of_ble_eq_true rfl)) dX1_fact_7 ⟨Nat.le_of_ble_eq_true rfl, Nat.le_of_ble_eq_true rfl⟩) hP hS (fun H locs hP hS => ?_)
  refine lv_if_ne (tgt := 15) hx hb dX1_fact_10 (by decide) (fun c_10 => ?_) (fun c_10 => ?_)
  · refine lv_aload_n hx hb dX1_fact_15 rfl (lv_at hl 0 rfl) ?_
    refine va_get (D := D) (ci := 1) (v := .int (nI fn)) (C := RX1) (T := TX1) (N := 7) hx hb hts hin hown hK hP 0 rfl rfl 2 (by decide) (hts (.fieldLink RX1 28 "OddsSamplingModel" "facts" "I") (by decide +kernel)) (fun _ h9 => h9) rfl dX1_fact_16 ?_
    refine lv_bipush (v := nI 12) hx hb dX1_fact_19 (by decide) ?_
    refine lv_icmp_ne (tgt := 27) hx hb dX1_fact_21 (by decide) (fun c_21 => ?_) (fun c_21 => ?_)
    · have hlt12 : fn < 12 := oo_ne12 hfn c_21
      refine lv_aload_n hx hb dX1_fact_27 rfl (lv_at hl 0 rfl) ?_
      refine va_get (D := D) (ci := 1) (v := .ref b1) (C := RX1) (T := TX1) (N := 7) hx hb hts hin hown hK hP 0 rfl rfl 0 (by decide) (hts (.fieldLink RX1 7 "OddsSamplingModel" "ups" "[I") (by decide +kernel)) (fun _ h9 => h9) rfl dX1_fact_28 ?_
      refine lv_aload_n hx hb dX1_fact_31 rfl (lv_at hl 0 rfl) ?_
      refine va_get (D := D) (ci := 1) (v := .int (nI fn)) (C := RX1) (T := TX1) (N := 7) hx hb hts hin hown hK hP 0 rfl rfl 2 (by decide) (hts (.fieldLink RX1 28 "OddsSamplingModel" "facts" "I") (by decide +kernel)) (fun _ h9 => h9) rfl dX1_fact_32 ?_
      refine lv_iload_n hx hb dX1_fact_35 rfl (lv_at hl 1 rfl) ?_
      refine va_iast hx hb hK hP hD hS 1 0 rfl rfl (vp_in_nI (by omega) (by omega)) dX1_fact_36 (fun H locs hP hD hS => ?_)
      have hP : va_P D vwCl (mW cI cZ h b1 b2 b3 (upd u (nI fn).toNatClampNeg up) d tr (nI fn) (nI qn) sd (0 : Int32)) H := hP
      have hD : va_D _ (mW cI cZ h b1 b2 b3 (upd u (nI fn).toNatClampNeg up) d tr (nI fn) (nI qn) sd (0 : Int32)) := hD
      have hP := Eq.mp (congrArg (fun z9 => va_P D vwCl (mW cI cZ h b1 b2 b3 z9 d tr (nI fn) (nI qn) sd (0 : Int32)) H) (show upd u (nI fn).toNatClampNeg up = upd u fn up from (by rw [nI_clamp (by omega)]))) hP
      have hP : va_P D vwCl (mW cI cZ h b1 b2 b3 (upd u fn up) d tr (nI fn) (nI qn) sd (0 : Int32)) H := hP
      have hD : va_D _ (mW cI cZ h b1 b2 b3 (upd u fn up) d tr (nI fn) (nI qn) sd (0 : Int32)) := oo_Dre hD (oo_fc (oo_fc (oo_fc (oo_fc rfl))))
      refine lv_aload_n hx hb dX1_fact_37 rfl (lv_at hl 0 rfl) ?_
      refine va_get (D := D) (ci := 1) (v := .ref b2) (C := RX1) (T := TX1) (N := 7) hx hb hts hin hown hK hP 0 rfl rfl 1 (by decide) (hts (.fieldLink RX1 13 "OddsSamplingModel" "downs" "[I") (by decide +kernel)) (fun _ h9 => h9) rfl dX1_fact_38 ?_
      refine lv_aload_n hx hb dX1_fact_41 rfl (lv_at hl 0 rfl) ?_
      refine va_get (D := D) (ci := 1) (v := .int (nI fn)) (C := RX1) (T := TX1) (N := 7) hx hb hts hin hown hK hP 0 rfl rfl 2 (by decide) (hts (.fieldLink RX1 28 "OddsSamplingModel" "facts" "I") (by decide +kernel)) (fun _ h9 => h9) rfl dX1_fact_42 ?_
      refine lv_iload_n hx hb dX1_fact_45 rfl (lv_at hl 2 rfl) ?_
      refine va_iast hx hb hK hP hD hS 2 0 rfl rfl (vp_in_nI (by omega) (by omega)) dX1_fact_46 (fun H locs hP hD hS => ?_)
      have hP : va_P D vwCl (mW cI cZ h b1 b2 b3 (upd u fn up) (upd d (nI fn).toNatClampNeg dn) tr (nI fn) (nI qn) sd (0 : Int32)) H := hP
      have hD : va_D _ (mW cI cZ h b1 b2 b3 (upd u fn up) (upd d (nI fn).toNatClampNeg dn) tr (nI fn) (nI qn) sd (0 : Int32)) := hD
      have hP := Eq.mp (congrArg (fun z9 => va_P D vwCl (mW cI cZ h b1 b2 b3 (upd u fn up) z9 tr (nI fn) (nI qn) sd (0 : Int32)) H) (show upd d (nI fn).toNatClampNeg dn = upd d fn dn from (by rw [nI_clamp (by omega)]))) hP
      have hP : va_P D vwCl (mW cI cZ h b1 b2 b3 (upd u fn up) (upd d fn dn) tr (nI fn) (nI qn) sd (0 : Int32)) H := hP
      have hD : va_D _ (mW cI cZ h b1 b2 b3 (upd u fn up) (upd d fn dn) tr (nI fn) (nI qn) sd (0 : Int32)) := oo_Dre hD (oo_fc (oo_fc (oo_fc (oo_fc rfl))))
      refine lv_aload_n hx hb dX1_fact_47 rfl (lv_at hl 0 rfl) ?_
      refine lv_dup hx hb dX1_fact_48 rfl ?_
      refine va_get (D := D) (ci := 1) (v := .int (nI fn)) (C := RX1) (T := TX1) (N := 7) hx hb hts hin hown hK hP 0 rfl rfl 2 (by decide) (hts (.fieldLink RX1 28 "OddsSamplingModel" "facts" "I") (by decide +kernel)) (fun _ h9 => h9) rfl dX1_fact_49 ?_
      refine lv_iconst (v := (1 : Int32)) hx hb dX1_fact_52 (by decide) ?_
      refine lv_iadd hx hb dX1_fact_53 ?_
      refine oo_topI (y := nI (fn + 1)) (nI_1 fn) ?_
      refine va_put (D := D) (ci := 1) (v := .int (nI (fn + 1))) (ty := .int) (C := RX1) (T := TX1) (N := 7) hx hb hts hin tyX1 tyX1_ok nmX1 hown hK hP hD hS 0 rfl rfl 2 (by decide) (hts (.fieldLink RX1 28 "OddsSamplingModel" "facts" "I") (by decide +kernel)) (fun _ h9 => h9) rfl (by decide +kernel) rfl rfl (Nat.le_of_ble_eq_true rfl) dX1_fact_54 (fun H locs hP hD hS => ?_)
      have hP : va_P D vwCl (mW cI cZ h b1 b2 b3 (upd u fn up) (upd d fn dn) tr (nI (fn + 1)) (nI qn) sd (0 : Int32)) H := hP
      have hD : va_D _ (mW cI cZ h b1 b2 b3 (upd u fn up) (upd d fn dn) tr (nI (fn + 1)) (nI qn) sd (0 : Int32)) := hD
      refine lv_aload_n hx hb dX1_fact_57 rfl (lv_at hl 0 rfl) ?_
      refine va_get (D := D) (ci := 1) (v := .int (nI (fn + 1))) (C := RX1) (T := TX1) (N := 7) hx hb hts hin hown hK hP 0 rfl rfl 2 (by decide) (hts (.fieldLink RX1 28 "OddsSamplingModel" "facts" "I") (by decide +kernel)) (fun _ h9 => h9) rfl dX1_fact_58 ?_
      refine lv_iconst (v := (1 : Int32)) hx hb dX1_fact_61 (by decide) ?_
      refine lv_isub hx hb dX1_fact_62 ?_
      refine oo_topI (y := nI fn) (nI_pred fn) ?_
      have hP := Eq.mp (congrArg (fun z9 => va_P D vwCl (mW cI cZ h b1 b2 b3 (upd u fn up) (upd d fn dn) tr z9 (nI qn) sd (0 : Int32)) H) (show nI (fn + 1) = kvX1_fact_fc fn up dn from (by unfold kvX1_fact_fc; rw [if_neg c_10, if_neg c_21]))) hP
      have hP := Eq.mp (congrArg (fun z9 => va_P D vwCl (mW cI cZ h b1 b2 b3 z9 (upd d fn dn) tr (kvX1_fact_fc fn up dn) (nI qn) sd (0 : Int32)) H) (show upd u fn up = kvX1_fact_u u fn up dn from (by unfold kvX1_fact_u; rw [if_neg c_10, if_neg c_21]))) hP
      have hP := Eq.mp (congrArg (fun z9 => va_P D vwCl (mW cI cZ h b1 b2 b3 (kvX1_fact_u u fn up dn) z9 tr (kvX1_fact_fc fn up dn) (nI qn) sd (0 : Int32)) H) (show upd d fn dn = kvX1_fact_d d fn up dn from (by unfold kvX1_fact_d; rw [if_neg c_10, if_neg c_21]))) hP
      have hP : va_P D vwCl (mW cI cZ h b1 b2 b3 (kvX1_fact_u u fn up dn) (kvX1_fact_d d fn up dn) tr (kvX1_fact_fc fn up dn) (nI qn) sd (0 : Int32)) H := hP
      have hD : va_D _ (mW cI cZ h b1 b2 b3 (kvX1_fact_u u fn up dn) (kvX1_fact_d d fn up dn) tr (kvX1_fact_fc fn up dn) (nI qn) sd (0 : Int32)) := oo_Dre hD (oo_fc (oo_fc (oo_fc (oo_fc rfl))))
      exact mu_reti hx hb hr hlocks hP hD hS (by unfold kvX1_fact; rw [if_neg c_10, if_neg c_21]) dX1_fact_63
    · refine lv_bipush (v := (-3 : Int32)) hx hb dX1_fact_24 (by decide) ?_
      have hP := Eq.mp (congrArg (fun z9 => va_P D vwCl (mW cI cZ h b1 b2 b3 u d tr z9 (nI qn) sd (0 : Int32)) H) (show nI fn = kvX1_fact_fc fn up dn from (by unfold kvX1_fact_fc; rw [if_neg c_10, if_pos c_21]))) hP
      have hP := Eq.mp (congrArg (fun z9 => va_P D vwCl (mW cI cZ h b1 b2 b3 z9 d tr (kvX1_fact_fc fn up dn) (nI qn) sd (0 : Int32)) H) (show u = kvX1_fact_u u fn up dn from (by unfold kvX1_fact_u; rw [if_neg c_10, if_pos c_21]))) hP
      have hP := Eq.mp (congrArg (fun z9 => va_P D vwCl (mW cI cZ h b1 b2 b3 (kvX1_fact_u u fn up dn) z9 tr (kvX1_fact_fc fn up dn) (nI qn) sd (0 : Int32)) H) (show d = kvX1_fact_d d fn up dn from (by unfold kvX1_fact_d; rw [if_neg c_10, if_pos c_21]))) hP
      have hP : va_P D vwCl (mW cI cZ h b1 b2 b3 (kvX1_fact_u u fn up dn) (kvX1_fact_d d fn up dn) tr (kvX1_fact_fc fn up dn) (nI qn) sd (0 : Int32)) H := hP
      have hD : va_D _ (mW cI cZ h b1 b2 b3 (kvX1_fact_u u fn up dn) (kvX1_fact_d d fn up dn) tr (kvX1_fact_fc fn up dn) (nI qn) sd (0 : Int32)) := oo_Dre hD (oo_fc (oo_fc (oo_fc (oo_fc rfl))))
      exact mu_reti hx hb hr hlocks hP hD hS (by unfold kvX1_fact; rw [if_neg c_10, if_pos c_21]) dX1_fact_26
  · refine lv_iconst (v := (-1 : Int32)) hx hb dX1_fact_13 (by decide) ?_
    have hP := Eq.mp (congrArg (fun z9 => va_P D vwCl (mW cI cZ h b1 b2 b3 u d tr z9 (nI qn) sd (0 : Int32)) H) (show nI fn = kvX1_fact_fc fn up dn from (by unfold kvX1_fact_fc; rw [if_pos c_10]))) hP
    have hP := Eq.mp (congrArg (fun z9 => va_P D vwCl (mW cI cZ h b1 b2 b3 z9 d tr (kvX1_fact_fc fn up dn) (nI qn) sd (0 : Int32)) H) (show u = kvX1_fact_u u fn up dn from (by unfold kvX1_fact_u; rw [if_pos c_10]))) hP
    have hP := Eq.mp (congrArg (fun z9 => va_P D vwCl (mW cI cZ h b1 b2 b3 (kvX1_fact_u u fn up dn) z9 tr (kvX1_fact_fc fn up dn) (nI qn) sd (0 : Int32)) H) (show d = kvX1_fact_d d fn up dn from (by unfold kvX1_fact_d; rw [if_pos c_10]))) hP
    have hP : va_P D vwCl (mW cI cZ h b1 b2 b3 (kvX1_fact_u u fn up dn) (kvX1_fact_d d fn up dn) tr (kvX1_fact_fc fn up dn) (nI qn) sd (0 : Int32)) H := hP
    have hD : va_D _ (mW cI cZ h b1 b2 b3 (kvX1_fact_u u fn up dn) (kvX1_fact_d d fn up dn) tr (kvX1_fact_fc fn up dn) (nI qn) sd (0 : Int32)) := oo_Dre hD (oo_fc (oo_fc (oo_fc (oo_fc rfl))))
    exact mu_reti hx hb hr hlocks hP hD hS (by unfold kvX1_fact; rw [if_pos c_10]) dX1_fact_14
theorem ok_X1_odds : yX1_odds.cls = RX1 ∧ yX1_odds.cls ≠ "java/lang/invoke/MethodHandle" ∧ yX1_odds.cls ≠ "java/lang/invoke/VarHandle" ∧ (parseMethodDescriptor yX1_odds.desc).map (fun d => d.parameters.length) = some 3 := by decide +kernel
def kvX1_odds (fn : Nat) (k : Int32) (up : Int32) (dn : Int32) : Int32 := if k < 0 then (-1 : Int32) else (if (nI fn) ≤ k then (-1 : Int32) else (if (kvX1_areOdds up dn) = 0 then (-1 : Int32) else (1 : Int32)))
def kvX1_odds_u (u : Nat → Int32) (fn : Nat) (k : Int32) (up : Int32) (dn : Int32) : Nat → Int32 := if k < 0 then u else (if (nI fn) ≤ k then u else (if (kvX1_areOdds up dn) = 0 then u else (upd u k.toNatClampNeg up)))
def kvX1_odds_d (d : Nat → Int32) (fn : Nat) (k : Int32) (up : Int32) (dn : Int32) : Nat → Int32 := if k < 0 then d else (if (nI fn) ≤ k then d else (if (kvX1_areOdds up dn) = 0 then d else (upd d k.toNatClampNeg dn)))
set_option maxHeartbeats 4000000 in
set_option maxRecDepth 100000 in
theorem kX1_odds (l : Launch) (D : va_G) (cI : ClassId) (cZ : ClassId) (h b1 b2 b3 : Nat) (u d tr : Nat → Int32) (fn qn : Nat) (sd : Int64) (th : Int32) (k : Int32) (up : Int32) (dn : Int32) (hfn : fn ≤ 12) : MuI l yX1_odds wsX1_odds ({ frames := 1, cells := 0, slots := 0, locals := 21 } : Room) [.ref h, .int k, .int up, .int dn] D (mW cI cZ h b1 b2 b3 u d tr (nI fn) (nI qn) sd th) [(cI, .int), (cZ, .boolean)] (mW cI cZ h b1 b2 b3 (kvX1_odds_u u fn k up dn) (kvX1_odds_d d fn k up dn) tr (nI fn) (nI qn) sd (0 : Int32)) (kvX1_odds fn k up dn) := by
  intro sz
  refine oo_head (C := RX1) (cc := cX1_odds) (maxL := 4) (ret := (some .int)) (by decide) rfl rfl (Nat.le_of_ble_eq_true rfl) ?_
  intro p e s m below meth c hx hb hr hlocks hml hown hnm hts hpre ls hl
  have hl : lv_has ls 4 [(0, .ref h), (1, .int k), (2, .int up), (3, .int dn)] := hl
  obtain ⟨rfl, hP, hK, hD0⟩ := hpre
  have hD := hD0.self (sz := s.heap.size)
  have hA := oo_A (mW cI cZ h b1 b2 b3 u d tr (nI fn) (nI qn) sd th) s
  have hS : va_S (va_A (mW cI cZ h b1 b2 b3 u d tr (nI fn) (nI qn) sd th) s.heap.size) s.heap s.heap [] := va_S.rf
  have hin : ∀ w ∈ wsX10, w ∈ wsX1_odds := fun w h => List.mem_cons_of_mem _ (List.mem_append_right _ h)
  refine lv_aload_n hx hb dX1_odds_0 rfl (lv_at hl 0 rfl) ?_
  refine lv_iconst (v := (0 : Int32)) hx hb dX1_odds_1 (by decide) ?_
  refine va_put (D := D) (ci := 1) (v := .int (0 : Int32)) (ty := .int) (C := RX1) (T := TX1) (N := 7) hx hb hts hin tyX1 tyX1_ok nmX1 hown hK hP hD hS 0 rfl rfl 6 (by decide) (hts (.fieldLink RX1 21 "OddsSamplingModel" "thrown" "I") (by decide +kernel)) (fun _ h9 => h9) rfl (by decide +kernel) rfl rfl (Nat.le_of_ble_eq_true rfl) dX1_odds_2 (fun H locs hP hD hS => ?_)
  have hP : va_P D vwCl (mW cI cZ h b1 b2 b3 u d tr (nI fn) (nI qn) sd (0 : Int32)) H := hP
  have hD : va_D _ (mW cI cZ h b1 b2 b3 u d tr (nI fn) (nI qn) sd (0 : Int32)) := hD
  refine lv_iload_n hx hb dX1_odds_5 rfl (lv_at hl 1 rfl) ?_
  refine lv_if_lt (tgt := 25) hx hb dX1_odds_6 (by decide) (fun c_6 => ?_) (fun c_6 => ?_)
  · refine lv_iconst (v := (-1 : Int32)) hx hb dX1_odds_25 (by decide) ?_
    have hP := Eq.mp (congrArg (fun z9 => va_P D vwCl (mW cI cZ h b1 b2 b3 z9 d tr (nI fn) (nI qn) sd (0 : Int32)) H) (show u = kvX1_odds_u u fn k up dn from (by unfold kvX1_odds_u; rw [if_pos c_6]))) hP
    have hP := Eq.mp (congrArg (fun z9 => va_P D vwCl (mW cI cZ h b1 b2 b3 (kvX1_odds_u u fn k up dn) z9 tr (nI fn) (nI qn) sd (0 : Int32)) H) (show d = kvX1_odds_d d fn k up dn from (by unfold kvX1_odds_d; rw [if_pos c_6]))) hP
    have hP : va_P D vwCl (mW cI cZ h b1 b2 b3 (kvX1_odds_u u fn k up dn) (kvX1_odds_d d fn k up dn) tr (nI fn) (nI qn) sd (0 : Int32)) H := hP
    have hD : va_D _ (mW cI cZ h b1 b2 b3 (kvX1_odds_u u fn k up dn) (kvX1_odds_d d fn k up dn) tr (nI fn) (nI qn) sd (0 : Int32)) := oo_Dre hD (oo_fc (oo_fc (oo_fc (oo_fc rfl))))
    exact mu_reti hx hb hr hlocks hP hD hS (by unfold kvX1_odds; rw [if_pos c_6]) dX1_odds_26
  · refine lv_iload_n hx hb dX1_odds_9 rfl (lv_at hl 1 rfl) ?_
    refine lv_aload_n hx hb dX1_odds_10 rfl (lv_at hl 0 rfl) ?_
    refine va_get (D := D) (ci := 1) (v := .int (nI fn)) (C := RX1) (T := TX1) (N := 7) hx hb hts hin hown hK hP 0 rfl rfl 2 (by decide) (hts (.fieldLink RX1 28 "OddsSamplingModel" "facts" "I") (by decide +kernel)) (fun _ h9 => h9) rfl dX1_odds_11 ?_
    refine lv_icmp_ge (tgt := 25) hx hb dX1_odds_14 (by decide) (fun c_14 => ?_) (fun c_14 => ?_)
    · refine lv_iconst (v := (-1 : Int32)) hx hb dX1_odds_25 (by decide) ?_
      have hP := Eq.mp (congrArg (fun z9 => va_P D vwCl (mW cI cZ h b1 b2 b3 z9 d tr (nI fn) (nI qn) sd (0 : Int32)) H) (show u = kvX1_odds_u u fn k up dn from (by unfold kvX1_odds_u; rw [if_neg c_6, if_pos c_14]))) hP
      have hP := Eq.mp (congrArg (fun z9 => va_P D vwCl (mW cI cZ h b1 b2 b3 (kvX1_odds_u u fn k up dn) z9 tr (nI fn) (nI qn) sd (0 : Int32)) H) (show d = kvX1_odds_d d fn k up dn from (by unfold kvX1_odds_d; rw [if_neg c_6, if_pos c_14]))) hP
      have hP : va_P D vwCl (mW cI cZ h b1 b2 b3 (kvX1_odds_u u fn k up dn) (kvX1_odds_d d fn k up dn) tr (nI fn) (nI qn) sd (0 : Int32)) H := hP
      have hD : va_D _ (mW cI cZ h b1 b2 b3 (kvX1_odds_u u fn k up dn) (kvX1_odds_d d fn k up dn) tr (nI fn) (nI qn) sd (0 : Int32)) := oo_Dre hD (oo_fc (oo_fc (oo_fc (oo_fc rfl))))
      exact mu_reti hx hb hr hlocks hP hD hS (by unfold kvX1_odds; rw [if_neg c_6, if_pos c_14]) dX1_odds_26
    · refine lv_iload_n hx hb dX1_odds_17 rfl (lv_at hl 2 rfl) ?_
      refine lv_iload_n hx hb dX1_odds_18 rfl (lv_at hl 3 rfl) ?_
      refine ro_calli (va_runS (As := [.int up, .int dn]) (rest := []) ⟨hx, hb, hml, hown, hts⟩ (kX1_areOdds l D up dn) (va_cwS 2 hts gX1_odds_X1_areOdds rfl rfl rfl ok_X1_areOdds ⟨Nat.le_of_ble_eq_true rfl, Nat.le_of_ble_eq_true rfl⟩) ⟨oo_blind, oo_ps hP hK [] rfl [] rfl⟩ rfl rfl hl.1 rfl (lv_room (Nat.le_of_ble_eq_true rfl)) dX1_odds_19 ⟨Nat.le_of_ble_eq_true rfl, Nat.le_of_ble_eq_true rfl⟩) hP hS (fun H locs hP hS => ?_)
      refine lv_if_ne (tgt := 27) hx hb dX1_odds_22 (by decide) (fun c_22 => ?_) (fun c_22 => ?_)
      · obtain ⟨hk1, hk2⟩ := oo_lt hfn c_6 c_14
        refine lv_aload_n hx hb dX1_odds_27 rfl (lv_at hl 0 rfl) ?_
        refine va_get (D := D) (ci := 1) (v := .ref b1) (C := RX1) (T := TX1) (N := 7) hx hb hts hin hown hK hP 0 rfl rfl 0 (by decide) (hts (.fieldLink RX1 7 "OddsSamplingModel" "ups" "[I") (by decide +kernel)) (fun _ h9 => h9) rfl dX1_odds_28 ?_
        refine lv_iload_n hx hb dX1_odds_31 rfl (lv_at hl 1 rfl) ?_
        refine oo_topI (y := nI k.toNatClampNeg) hk1 ?_
        refine lv_iload_n hx hb dX1_odds_32 rfl (lv_at hl 2 rfl) ?_
        refine va_iast hx hb hK hP hD hS 1 0 rfl rfl (vp_in_nI (by omega) (by omega)) dX1_odds_33 (fun H locs hP hD hS => ?_)
        have hP : va_P D vwCl (mW cI cZ h b1 b2 b3 (upd u (nI k.toNatClampNeg).toNatClampNeg up) d tr (nI fn) (nI qn) sd (0 : Int32)) H := hP
        have hD : va_D _ (mW cI cZ h b1 b2 b3 (upd u (nI k.toNatClampNeg).toNatClampNeg up) d tr (nI fn) (nI qn) sd (0 : Int32)) := hD
        have hP := Eq.mp (congrArg (fun z9 => va_P D vwCl (mW cI cZ h b1 b2 b3 z9 d tr (nI fn) (nI qn) sd (0 : Int32)) H) (show upd u (nI k.toNatClampNeg).toNatClampNeg up = upd u k.toNatClampNeg up from (by rw [nI_clamp (by omega)]))) hP
        have hP : va_P D vwCl (mW cI cZ h b1 b2 b3 (upd u k.toNatClampNeg up) d tr (nI fn) (nI qn) sd (0 : Int32)) H := hP
        have hD : va_D _ (mW cI cZ h b1 b2 b3 (upd u k.toNatClampNeg up) d tr (nI fn) (nI qn) sd (0 : Int32)) := oo_Dre hD (oo_fc (oo_fc (oo_fc (oo_fc rfl))))
        refine lv_aload_n hx hb dX1_odds_34 rfl (lv_at hl 0 rfl) ?_
        refine va_get (D := D) (ci := 1) (v := .ref b2) (C := RX1) (T := TX1) (N := 7) hx hb hts hin hown hK hP 0 rfl rfl 1 (by decide) (hts (.fieldLink RX1 13 "OddsSamplingModel" "downs" "[I") (by decide +kernel)) (fun _ h9 => h9) rfl dX1_odds_35 ?_
        refine lv_iload_n hx hb dX1_odds_38 rfl (lv_at hl 1 rfl) ?_
        refine oo_topI (y := nI k.toNatClampNeg) hk1 ?_
        refine lv_iload_n hx hb dX1_odds_39 rfl (lv_at hl 3 rfl) ?_
        refine va_iast hx hb hK hP hD hS 2 0 rfl rfl (vp_in_nI (by omega) (by omega)) dX1_odds_40 (fun H locs hP hD hS => ?_)
        have hP : va_P D vwCl (mW cI cZ h b1 b2 b3 (upd u k.toNatClampNeg up) (upd d (nI k.toNatClampNeg).toNatClampNeg dn) tr (nI fn) (nI qn) sd (0 : Int32)) H := hP
        have hD : va_D _ (mW cI cZ h b1 b2 b3 (upd u k.toNatClampNeg up) (upd d (nI k.toNatClampNeg).toNatClampNeg dn) tr (nI fn) (nI qn) sd (0 : Int32)) := hD
        have hP := Eq.mp (congrArg (fun z9 => va_P D vwCl (mW cI cZ h b1 b2 b3 (upd u k.toNatClampNeg up) z9 tr (nI fn) (nI qn) sd (0 : Int32)) H) (show upd d (nI k.toNatClampNeg).toNatClampNeg dn = upd d k.toNatClampNeg dn from (by rw [nI_clamp (by omega)]))) hP
        have hP : va_P D vwCl (mW cI cZ h b1 b2 b3 (upd u k.toNatClampNeg up) (upd d k.toNatClampNeg dn) tr (nI fn) (nI qn) sd (0 : Int32)) H := hP
        have hD : va_D _ (mW cI cZ h b1 b2 b3 (upd u k.toNatClampNeg up) (upd d k.toNatClampNeg dn) tr (nI fn) (nI qn) sd (0 : Int32)) := oo_Dre hD (oo_fc (oo_fc (oo_fc (oo_fc rfl))))
        refine lv_iconst (v := (1 : Int32)) hx hb dX1_odds_41 (by decide) ?_
        have hP := Eq.mp (congrArg (fun z9 => va_P D vwCl (mW cI cZ h b1 b2 b3 z9 (upd d k.toNatClampNeg dn) tr (nI fn) (nI qn) sd (0 : Int32)) H) (show upd u k.toNatClampNeg up = kvX1_odds_u u fn k up dn from (by unfold kvX1_odds_u; rw [if_neg c_6, if_neg c_14, if_neg c_22]))) hP
        have hP := Eq.mp (congrArg (fun z9 => va_P D vwCl (mW cI cZ h b1 b2 b3 (kvX1_odds_u u fn k up dn) z9 tr (nI fn) (nI qn) sd (0 : Int32)) H) (show upd d k.toNatClampNeg dn = kvX1_odds_d d fn k up dn from (by unfold kvX1_odds_d; rw [if_neg c_6, if_neg c_14, if_neg c_22]))) hP
        have hP : va_P D vwCl (mW cI cZ h b1 b2 b3 (kvX1_odds_u u fn k up dn) (kvX1_odds_d d fn k up dn) tr (nI fn) (nI qn) sd (0 : Int32)) H := hP
        have hD : va_D _ (mW cI cZ h b1 b2 b3 (kvX1_odds_u u fn k up dn) (kvX1_odds_d d fn k up dn) tr (nI fn) (nI qn) sd (0 : Int32)) := oo_Dre hD (oo_fc (oo_fc (oo_fc (oo_fc rfl))))
        exact mu_reti hx hb hr hlocks hP hD hS (by unfold kvX1_odds; rw [if_neg c_6, if_neg c_14, if_neg c_22]) dX1_odds_42
      · refine lv_iconst (v := (-1 : Int32)) hx hb dX1_odds_25 (by decide) ?_
        have hP := Eq.mp (congrArg (fun z9 => va_P D vwCl (mW cI cZ h b1 b2 b3 z9 d tr (nI fn) (nI qn) sd (0 : Int32)) H) (show u = kvX1_odds_u u fn k up dn from (by unfold kvX1_odds_u; rw [if_neg c_6, if_neg c_14, if_pos c_22]))) hP
        have hP := Eq.mp (congrArg (fun z9 => va_P D vwCl (mW cI cZ h b1 b2 b3 (kvX1_odds_u u fn k up dn) z9 tr (nI fn) (nI qn) sd (0 : Int32)) H) (show d = kvX1_odds_d d fn k up dn from (by unfold kvX1_odds_d; rw [if_neg c_6, if_neg c_14, if_pos c_22]))) hP
        have hP : va_P D vwCl (mW cI cZ h b1 b2 b3 (kvX1_odds_u u fn k up dn) (kvX1_odds_d d fn k up dn) tr (nI fn) (nI qn) sd (0 : Int32)) H := hP
        have hD : va_D _ (mW cI cZ h b1 b2 b3 (kvX1_odds_u u fn k up dn) (kvX1_odds_d d fn k up dn) tr (nI fn) (nI qn) sd (0 : Int32)) := oo_Dre hD (oo_fc (oo_fc (oo_fc (oo_fc rfl))))
        exact mu_reti hx hb hr hlocks hP hD hS (by unfold kvX1_odds; rw [if_neg c_6, if_neg c_14, if_pos c_22]) dX1_odds_26
theorem ok_X1_isTrue : yX1_isTrue.cls = RX1 ∧ yX1_isTrue.cls ≠ "java/lang/invoke/MethodHandle" ∧ yX1_isTrue.cls ≠ "java/lang/invoke/VarHandle" ∧ (parseMethodDescriptor yX1_isTrue.desc).map (fun d => d.parameters.length) = some 2 := by decide +kernel
set_option maxHeartbeats 4000000 in
set_option maxRecDepth 100000 in
theorem kX1_isTrue (l : Launch) (D : va_G) (cI : ClassId) (cZ : ClassId) (h b1 b2 b3 : Nat) (u d tr : Nat → Int32) (fn qn : Nat) (sd : Int64) (th : Int32) (q w : Nat)  (hq : q < 40) (hw : w < 4096) (h01 : oo_01 tr) : RoI l yX1_isTrue wsX1_isTrue ({ frames := 0, cells := 0, slots := 0, locals := 0 } : Room) [.ref h, .int (nI q), .int (nI w)] D (mW cI cZ h b1 b2 b3 u d tr (nI fn) (nI qn) sd th) [(cI, .int), (cZ, .boolean)] (tr (4096 * q + w)) := by
  refine oo_head (C := RX1) (cc := cX1_isTrue) (maxL := 3) (ret := (some .boolean)) (by decide) rfl rfl (Nat.le_of_ble_eq_true rfl) ?_
  intro p e s m below meth c hx hb hr hlocks hml hown hnm hts hpre ls hl
  have hl : lv_has ls 3 [(0, .ref h), (1, .int (nI q)), (2, .int (nI w))] := hl
  obtain ⟨hP, hK⟩ := hpre
  have hS : va_S oo_N s.heap s.heap [] := va_S.rf
  have hin : ∀ w ∈ wsX10, w ∈ wsX1_isTrue := fun w h => List.mem_cons_of_mem _ (List.mem_append_right _ h)
  refine lv_aload_n hx hb dX1_isTrue_0 rfl (lv_at hl 0 rfl) ?_
  refine va_get (D := D) (ci := 1) (v := .ref b3) (C := RX1) (T := TX1) (N := 7) hx hb hts hin hown hK hP 0 rfl rfl 3 (by decide) (hts (.fieldLink RX1 17 "OddsSamplingModel" "truths" "[Z") (by decide +kernel)) (fun _ h9 => h9) rfl dX1_isTrue_1 ?_
  refine lv_sipush (v := nI 4096) hx hb dX1_isTrue_4 (by decide) ?_
  refine lv_iload_n hx hb dX1_isTrue_7 rfl (lv_at hl 1 rfl) ?_
  refine lv_imul hx hb dX1_isTrue_8 ?_
  refine lv_iload_n hx hb dX1_isTrue_9 rfl (lv_at hl 2 rfl) ?_
  refine lv_iadd hx hb dX1_isTrue_10 ?_
  refine oo_topI (y := nI (4096 * q + w)) (by rw [pk_mul, nI_add]) ?_
  refine va_zald hx hb hK hP 3 1 rfl rfl (vp_in_nI (by omega) (by omega)) dX1_isTrue_11 ?_
  refine oo_topI (y := tr (4096 * q + w)) (congrArg tr (nI_clamp (by omega))) ?_
  exact ro_retz hx hb hr hlocks hS (oo_nar (h01 _)) rfl dX1_isTrue_12
def kl_setT (tr : Nat → Int32) (qn : Nat) (w wo : Int32) : Nat → Nat → Int32
  | 0 => tr
  | n + 1 => if (nI n &&& w) = w then (if (nI n &&& wo) = 0 then upd (kl_setT tr qn w wo n) (4096 * qn + n) 1 else upd (kl_setT tr qn w wo n) (4096 * qn + n) 0) else upd (kl_setT tr qn w wo n) (4096 * qn + n) 0
theorem ok_X1_set : yX1_set.cls = RX1 ∧ yX1_set.cls ≠ "java/lang/invoke/MethodHandle" ∧ yX1_set.cls ≠ "java/lang/invoke/VarHandle" ∧ (parseMethodDescriptor yX1_set.desc).map (fun d => d.parameters.length) = some 2 := by decide +kernel
def kvX1_set (fn : Nat) (qn : Nat) (w : Int32) (wo : Int32) : Int32 := if (kvX1_areFacts fn w) = 0 then (-1 : Int32) else (if (kvX1_areFacts fn wo) = 0 then (-1 : Int32) else (if (nI qn) = (nI 40) then (-3 : Int32) else (nI qn)))
def kvX1_set_tr (tr : Nat → Int32) (fn : Nat) (qn : Nat) (w : Int32) (wo : Int32) : Nat → Int32 := if (kvX1_areFacts fn w) = 0 then tr else (if (kvX1_areFacts fn wo) = 0 then tr else (if (nI qn) = (nI 40) then tr else (kl_setT tr qn w wo 4096)))
def kvX1_set_qc (fn : Nat) (qn : Nat) (w : Int32) (wo : Int32) : Int32 := if (kvX1_areFacts fn w) = 0 then (nI qn) else (if (kvX1_areFacts fn wo) = 0 then (nI qn) else (if (nI qn) = (nI 40) then (nI qn) else (nI (qn + 1))))
set_option maxHeartbeats 4000000 in
set_option maxRecDepth 100000 in
theorem kX1_set (l : Launch) (D : va_G) (cI : ClassId) (cZ : ClassId) (h b1 b2 b3 : Nat) (u d tr : Nat → Int32) (fn qn : Nat) (sd : Int64) (th : Int32) (w : Int32) (wo : Int32) (hfn : fn ≤ 12) (hqn : qn ≤ 40) : MuI l yX1_set wsX1_set ({ frames := 1, cells := 0, slots := 0, locals := 21 } : Room) [.ref h, .int w, .int wo] D (mW cI cZ h b1 b2 b3 u d tr (nI fn) (nI qn) sd th) [(cI, .int), (cZ, .boolean)] (mW cI cZ h b1 b2 b3 u d (kvX1_set_tr tr fn qn w wo) (nI fn) (kvX1_set_qc fn qn w wo) sd (0 : Int32)) (kvX1_set fn qn w wo) := by
  intro sz
  refine oo_head (C := RX1) (cc := cX1_set) (maxL := 4) (ret := (some .int)) (by decide) rfl rfl (Nat.le_of_ble_eq_true rfl) ?_
  intro p e s m below meth c hx hb hr hlocks hml hown hnm hts hpre ls hl
  have hl : lv_has ls 4 [(0, .ref h), (1, .int w), (2, .int wo)] := hl
  obtain ⟨rfl, hP, hK, hD0⟩ := hpre
  have hD := hD0.self (sz := s.heap.size)
  have hA := oo_A (mW cI cZ h b1 b2 b3 u d tr (nI fn) (nI qn) sd th) s
  have hS : va_S (va_A (mW cI cZ h b1 b2 b3 u d tr (nI fn) (nI qn) sd th) s.heap.size) s.heap s.heap [] := va_S.rf
  have hin : ∀ w ∈ wsX10, w ∈ wsX1_set := fun w h => List.mem_cons_of_mem _ (List.mem_append_right _ h)
  refine lv_aload_n hx hb dX1_set_0 rfl (lv_at hl 0 rfl) ?_
  refine lv_iconst (v := (0 : Int32)) hx hb dX1_set_1 (by decide) ?_
  refine va_put (D := D) (ci := 1) (v := .int (0 : Int32)) (ty := .int) (C := RX1) (T := TX1) (N := 7) hx hb hts hin tyX1 tyX1_ok nmX1 hown hK hP hD hS 0 rfl rfl 6 (by decide) (hts (.fieldLink RX1 21 "OddsSamplingModel" "thrown" "I") (by decide +kernel)) (fun _ h9 => h9) rfl (by decide +kernel) rfl rfl (Nat.le_of_ble_eq_true rfl) dX1_set_2 (fun H locs hP hD hS => ?_)
  have hP : va_P D vwCl (mW cI cZ h b1 b2 b3 u d tr (nI fn) (nI qn) sd (0 : Int32)) H := hP
  have hD : va_D _ (mW cI cZ h b1 b2 b3 u d tr (nI fn) (nI qn) sd (0 : Int32)) := hD
  refine lv_aload_n hx hb dX1_set_5 rfl (lv_at hl 0 rfl) ?_
  refine lv_iload_n hx hb dX1_set_6 rfl (lv_at hl 1 rfl) ?_
  refine ro_calli (va_runV (As := [.int w]) (rest := []) ⟨hx, hb, hml, hown, hts⟩ (kX1_areFacts l D cI cZ h b1 b2 b3 u d tr fn qn sd (0 : Int32) w hfn) (cwV 1 hts gX1_set_X1_areFacts rfl rfl rfl ok_X1_areFacts ⟨Nat.le_of_ble_eq_true rfl, Nat.le_of_ble_eq_true rfl⟩) ⟨oo_blind, va_recv hK hP (ci := 1) (q0 := 0) rfl rfl, oo_ps hP hK [0, 1, 2, 3] rfl [0, 1] rfl⟩ rfl rfl hl.1 rfl (lv_room (Nat.le_of_ble_eq_true rfl)) dX1_set_7 ⟨Nat.le_of_ble_eq_true rfl, Nat.le_of_ble_eq_true rfl⟩) hP hS (fun H locs hP hS => ?_)
  refine lv_if_eq (tgt := 21) hx hb dX1_set_10 (by decide) (fun c_10 => ?_) (fun c_10 => ?_)
  · refine lv_iconst (v := (-1 : Int32)) hx hb dX1_set_21 (by decide) ?_
    have hP := Eq.mp (congrArg (fun z9 => va_P D vwCl (mW cI cZ h b1 b2 b3 u d tr (nI fn) z9 sd (0 : Int32)) H) (show nI qn = kvX1_set_qc fn qn w wo from (by unfold kvX1_set_qc; rw [if_pos c_10]))) hP
    have hP := Eq.mp (congrArg (fun z9 => va_P D vwCl (mW cI cZ h b1 b2 b3 u d z9 (nI fn) (kvX1_set_qc fn qn w wo) sd (0 : Int32)) H) (show tr = kvX1_set_tr tr fn qn w wo from (by unfold kvX1_set_tr; rw [if_pos c_10]))) hP
    have hP : va_P D vwCl (mW cI cZ h b1 b2 b3 u d (kvX1_set_tr tr fn qn w wo) (nI fn) (kvX1_set_qc fn qn w wo) sd (0 : Int32)) H := hP
    have hD : va_D _ (mW cI cZ h b1 b2 b3 u d (kvX1_set_tr tr fn qn w wo) (nI fn) (kvX1_set_qc fn qn w wo) sd (0 : Int32)) := oo_Dre hD (oo_fc (oo_fc (oo_fc (oo_fc rfl))))
    exact mu_reti hx hb hr hlocks hP hD hS (by unfold kvX1_set; rw [if_pos c_10]) dX1_set_22
  · refine lv_aload_n hx hb dX1_set_13 rfl (lv_at hl 0 rfl) ?_
    refine lv_iload_n hx hb dX1_set_14 rfl (lv_at hl 2 rfl) ?_
    refine ro_calli (va_runV (As := [.int wo]) (rest := []) ⟨hx, hb, hml, hown, hts⟩ (kX1_areFacts l D cI cZ h b1 b2 b3 u d tr fn qn sd (0 : Int32) wo hfn) (cwV 1 hts gX1_set_X1_areFacts rfl rfl rfl ok_X1_areFacts ⟨Nat.le_of_ble_eq_true rfl, Nat.le_of_ble_eq_true rfl⟩) ⟨oo_blind, va_recv hK hP (ci := 1) (q0 := 0) rfl rfl, oo_ps hP hK [0, 1, 2, 3] rfl [0, 1] rfl⟩ rfl rfl hl.1 rfl (lv_room (Nat.le_of_ble_eq_true rfl)) dX1_set_15 ⟨Nat.le_of_ble_eq_true rfl, Nat.le_of_ble_eq_true rfl⟩) hP hS (fun H locs hP hS => ?_)
    refine lv_if_ne (tgt := 23) hx hb dX1_set_18 (by decide) (fun c_18 => ?_) (fun c_18 => ?_)
    · refine lv_aload_n hx hb dX1_set_23 rfl (lv_at hl 0 rfl) ?_
      refine va_get (D := D) (ci := 1) (v := .int (nI qn)) (C := RX1) (T := TX1) (N := 7) hx hb hts hin hown hK hP 0 rfl rfl 4 (by decide) (hts (.fieldLink RX1 25 "OddsSamplingModel" "questions" "I") (by decide +kernel)) (fun _ h9 => h9) rfl dX1_set_24 ?_
      refine lv_bipush (v := nI 40) hx hb dX1_set_27 (by decide) ?_
      refine lv_icmp_ne (tgt := 35) hx hb dX1_set_29 (by decide) (fun c_29 => ?_) (fun c_29 => ?_)
      · have hlt40 : qn < 40 := oo_ne40 hqn c_29
        refine lv_iconst (v := nI 0) hx hb dX1_set_35 (by decide) ?_
        refine lv_istore_n (lv' := [(3, .int (nI 0)), (0, .ref h), (1, .int w), (2, .int wo)]) hx hb dX1_set_36 rfl hl (by decide) rfl (fun ls hl => ?_)
        have hl : lv_has ls 4 [(0, .ref h), (1, .int w), (2, .int wo), (3, .int (nI 0))] := lv_sub hl [1, 2, 3, 0] rfl
        have hP := Eq.mp (congrArg (fun z9 => va_P D vwCl (mW cI cZ h b1 b2 b3 u d z9 (nI fn) (nI qn) sd (0 : Int32)) H) (show tr = kl_setT tr qn w wo 0 from (by first | (simp only [kl_setT]; done) | (simp only [kl_setT]; rw [if_neg c_10, if_neg c_18, if_neg c_29])))) hP
        have hP : va_P D vwCl (mW cI cZ h b1 b2 b3 u d (kl_setT tr qn w wo 0) (nI fn) (nI qn) sd (0 : Int32)) H := hP
        have hD : va_D _ (mW cI cZ h b1 b2 b3 u d (kl_setT tr qn w wo 0) (nI fn) (nI qn) sd (0 : Int32)) := oo_Dre hD (oo_fc (oo_fc (oo_fc (oo_fc rfl))))
        refine oo_loop (N := 4096) (fun n H locs ls => va_P D vwCl (mW cI cZ h b1 b2 b3 u d (kl_setT tr qn w wo n) (nI fn) (nI qn) sd (0 : Int32)) H ∧ va_D (va_A (mW cI cZ h b1 b2 b3 u d tr (nI fn) (nI qn) sd th) s.heap.size) (mW cI cZ h b1 b2 b3 u d (kl_setT tr qn w wo n) (nI fn) (nI qn) sd (0 : Int32)) ∧ va_S (va_A (mW cI cZ h b1 b2 b3 u d tr (nI fn) (nI qn) sd th) s.heap.size) s.heap H locs ∧ lv_has ls 4 [(0, .ref h), (1, .int w), (2, .int wo), (3, .int (nI n))]) ?_ ?_ 0 (Nat.zero_le _) ⟨hP, hD, hS, hl⟩
        · intro H locs ls hI
          obtain ⟨hP, hD, hS, hl⟩ := hI
          refine lv_iload_n hx hb dX1_set_37 rfl (lv_at hl 3 rfl) ?_
          refine lv_sipush (v := nI 4096) hx hb dX1_set_38 (by decide) ?_
          refine lv_icmp_ge (tgt := 83) hx hb dX1_set_41 (by decide) (fun c_41 => ?_) (fun c_41 => ?_)
          · refine lv_aload_n hx hb dX1_set_83 rfl (lv_at hl 0 rfl) ?_
            refine lv_dup hx hb dX1_set_84 rfl ?_
            refine va_get (D := D) (ci := 1) (v := .int (nI qn)) (C := RX1) (T := TX1) (N := 7) hx hb hts hin hown hK hP 0 rfl rfl 4 (by decide) (hts (.fieldLink RX1 25 "OddsSamplingModel" "questions" "I") (by decide +kernel)) (fun _ h9 => h9) rfl dX1_set_85 ?_
            refine lv_iconst (v := (1 : Int32)) hx hb dX1_set_88 (by decide) ?_
            refine lv_iadd hx hb dX1_set_89 ?_
            refine oo_topI (y := nI (qn + 1)) (nI_1 qn) ?_
            refine va_put (D := D) (ci := 1) (v := .int (nI (qn + 1))) (ty := .int) (C := RX1) (T := TX1) (N := 7) hx hb hts hin tyX1 tyX1_ok nmX1 hown hK hP hD hS 0 rfl rfl 4 (by decide) (hts (.fieldLink RX1 25 "OddsSamplingModel" "questions" "I") (by decide +kernel)) (fun _ h9 => h9) rfl (by decide +kernel) rfl rfl (Nat.le_of_ble_eq_true rfl) dX1_set_90 (fun H locs hP hD hS => ?_)
            have hP : va_P D vwCl (mW cI cZ h b1 b2 b3 u d (kl_setT tr qn w wo 4096) (nI fn) (nI (qn + 1)) sd (0 : Int32)) H := hP
            have hD : va_D _ (mW cI cZ h b1 b2 b3 u d (kl_setT tr qn w wo 4096) (nI fn) (nI (qn + 1)) sd (0 : Int32)) := hD
            refine lv_aload_n hx hb dX1_set_93 rfl (lv_at hl 0 rfl) ?_
            refine va_get (D := D) (ci := 1) (v := .int (nI (qn + 1))) (C := RX1) (T := TX1) (N := 7) hx hb hts hin hown hK hP 0 rfl rfl 4 (by decide) (hts (.fieldLink RX1 25 "OddsSamplingModel" "questions" "I") (by decide +kernel)) (fun _ h9 => h9) rfl dX1_set_94 ?_
            refine lv_iconst (v := (1 : Int32)) hx hb dX1_set_97 (by decide) ?_
            refine lv_isub hx hb dX1_set_98 ?_
            refine oo_topI (y := nI qn) (nI_pred qn) ?_
            have hP := Eq.mp (congrArg (fun z9 => va_P D vwCl (mW cI cZ h b1 b2 b3 u d (kl_setT tr qn w wo 4096) (nI fn) z9 sd (0 : Int32)) H) (show nI (qn + 1) = kvX1_set_qc fn qn w wo from (by unfold kvX1_set_qc; rw [if_neg c_10, if_neg c_18, if_neg c_29]))) hP
            have hP := Eq.mp (congrArg (fun z9 => va_P D vwCl (mW cI cZ h b1 b2 b3 u d z9 (nI fn) (kvX1_set_qc fn qn w wo) sd (0 : Int32)) H) (show kl_setT tr qn w wo 4096 = kvX1_set_tr tr fn qn w wo from (by unfold kvX1_set_tr; rw [if_neg c_10, if_neg c_18, if_neg c_29]))) hP
            have hP : va_P D vwCl (mW cI cZ h b1 b2 b3 u d (kvX1_set_tr tr fn qn w wo) (nI fn) (kvX1_set_qc fn qn w wo) sd (0 : Int32)) H := hP
            have hD : va_D _ (mW cI cZ h b1 b2 b3 u d (kvX1_set_tr tr fn qn w wo) (nI fn) (kvX1_set_qc fn qn w wo) sd (0 : Int32)) := oo_Dre hD (oo_fc (oo_fc (oo_fc (oo_fc rfl))))
            exact mu_reti hx hb hr hlocks hP hD hS (by unfold kvX1_set; rw [if_neg c_10, if_neg c_18, if_neg c_29]) dX1_set_99
          · exact absurd (nI_le (Nat.le_refl _) (by omega)) c_41
        · intro n hltn ihn H locs ls hI
          obtain ⟨hP, hD, hS, hl⟩ := hI
          refine lv_iload_n hx hb dX1_set_37 rfl (lv_at hl 3 rfl) ?_
          refine lv_sipush (v := nI 4096) hx hb dX1_set_38 (by decide) ?_
          refine lv_icmp_ge (tgt := 83) hx hb dX1_set_41 (by decide) (fun c_41 => ?_) (fun c_41 => ?_)
          · exact absurd c_41 (nI_ge hltn (by omega))
          · refine lv_aload_n hx hb dX1_set_44 rfl (lv_at hl 0 rfl) ?_
            refine va_get (D := D) (ci := 1) (v := .ref b3) (C := RX1) (T := TX1) (N := 7) hx hb hts hin hown hK hP 0 rfl rfl 3 (by decide) (hts (.fieldLink RX1 17 "OddsSamplingModel" "truths" "[Z") (by decide +kernel)) (fun _ h9 => h9) rfl dX1_set_45 ?_
            refine lv_sipush (v := nI 4096) hx hb dX1_set_48 (by decide) ?_
            refine lv_aload_n hx hb dX1_set_51 rfl (lv_at hl 0 rfl) ?_
            refine va_get (D := D) (ci := 1) (v := .int (nI qn)) (C := RX1) (T := TX1) (N := 7) hx hb hts hin hown hK hP 0 rfl rfl 4 (by decide) (hts (.fieldLink RX1 25 "OddsSamplingModel" "questions" "I") (by decide +kernel)) (fun _ h9 => h9) rfl dX1_set_52 ?_
            refine lv_imul hx hb dX1_set_55 ?_
            refine lv_iload_n hx hb dX1_set_56 rfl (lv_at hl 3 rfl) ?_
            refine lv_iadd hx hb dX1_set_57 ?_
            refine oo_topI (y := nI (4096 * qn + n)) (by rw [pk_mul, nI_add]) ?_
            refine lv_iload_n hx hb dX1_set_58 rfl (lv_at hl 3 rfl) ?_
            refine lv_iload_n hx hb dX1_set_59 rfl (lv_at hl 1 rfl) ?_
            refine lv_iand hx hb dX1_set_60 ?_
            refine lv_iload_n hx hb dX1_set_61 rfl (lv_at hl 1 rfl) ?_
            refine lv_icmp_ne (tgt := 75) hx hb dX1_set_62 (by decide) (fun c_62 => ?_) (fun c_62 => ?_)
            · refine lv_iconst (v := (0 : Int32)) hx hb dX1_set_75 (by decide) ?_
              refine va_zast hx hb hK hP hD hS 3 1 rfl rfl (vp_in_nI (by omega) (by omega)) dX1_set_76 (fun H locs hP hD hS => ?_)
              have hP : va_P D vwCl (mW cI cZ h b1 b2 b3 u d (upd (kl_setT tr qn w wo n) (nI (4096 * qn + n)).toNatClampNeg (vp_nar .boolean (0 : Int32))) (nI fn) (nI qn) sd (0 : Int32)) H := hP
              have hD : va_D _ (mW cI cZ h b1 b2 b3 u d (upd (kl_setT tr qn w wo n) (nI (4096 * qn + n)).toNatClampNeg (vp_nar .boolean (0 : Int32))) (nI fn) (nI qn) sd (0 : Int32)) := hD
              have hP := Eq.mp (congrArg (fun z9 => va_P D vwCl (mW cI cZ h b1 b2 b3 u d z9 (nI fn) (nI qn) sd (0 : Int32)) H) (show upd (kl_setT tr qn w wo n) (nI (4096 * qn + n)).toNatClampNeg (vp_nar .boolean (0 : Int32)) = upd (kl_setT tr qn w wo n) (4096 * qn + n) (0 : Int32) from (by rw [nI_clamp (by omega), oo_vz0]))) hP
              have hP : va_P D vwCl (mW cI cZ h b1 b2 b3 u d (upd (kl_setT tr qn w wo n) (4096 * qn + n) (0 : Int32)) (nI fn) (nI qn) sd (0 : Int32)) H := hP
              have hD : va_D _ (mW cI cZ h b1 b2 b3 u d (upd (kl_setT tr qn w wo n) (4096 * qn + n) (0 : Int32)) (nI fn) (nI qn) sd (0 : Int32)) := oo_Dre hD (oo_fc (oo_fc (oo_fc (oo_fc rfl))))
              refine lv_iinc (v := nI (n + 1)) (lv' := [(3, .int (nI (n + 1))), (0, .ref h), (1, .int w), (2, .int wo)]) hx hb dX1_set_77 hl (k := 3) rfl (oo_inc n 1) (by decide) rfl (fun ls hl => ?_)
              refine lv_goto (tgt := 37) hx hb dX1_set_80 (by decide) ?_
              have hl : lv_has ls 4 [(0, .ref h), (1, .int w), (2, .int wo), (3, .int (nI (n + 1)))] := lv_sub hl [1, 2, 3, 0] rfl
              have hP := Eq.mp (congrArg (fun z9 => va_P D vwCl (mW cI cZ h b1 b2 b3 u d z9 (nI fn) (nI qn) sd (0 : Int32)) H) (show upd (kl_setT tr qn w wo n) (4096 * qn + n) (0 : Int32) = kl_setT tr qn w wo (n + 1) from (by first | (simp only [kl_setT]; done) | (simp only [kl_setT]; rw [if_neg c_62])))) hP
              have hP : va_P D vwCl (mW cI cZ h b1 b2 b3 u d (kl_setT tr qn w wo (n + 1)) (nI fn) (nI qn) sd (0 : Int32)) H := hP
              have hD : va_D _ (mW cI cZ h b1 b2 b3 u d (kl_setT tr qn w wo (n + 1)) (nI fn) (nI qn) sd (0 : Int32)) := oo_Dre hD (oo_fc (oo_fc (oo_fc (oo_fc rfl))))
              exact ihn _ _ _ ⟨hP, hD, hS, hl⟩
            · refine lv_iload_n hx hb dX1_set_65 rfl (lv_at hl 3 rfl) ?_
              refine lv_iload_n hx hb dX1_set_66 rfl (lv_at hl 2 rfl) ?_
              refine lv_iand hx hb dX1_set_67 ?_
              refine lv_if_ne (tgt := 75) hx hb dX1_set_68 (by decide) (fun c_68 => ?_) (fun c_68 => ?_)
              · refine lv_iconst (v := (0 : Int32)) hx hb dX1_set_75 (by decide) ?_
                refine va_zast hx hb hK hP hD hS 3 1 rfl rfl (vp_in_nI (by omega) (by omega)) dX1_set_76 (fun H locs hP hD hS => ?_)
                have hP : va_P D vwCl (mW cI cZ h b1 b2 b3 u d (upd (kl_setT tr qn w wo n) (nI (4096 * qn + n)).toNatClampNeg (vp_nar .boolean (0 : Int32))) (nI fn) (nI qn) sd (0 : Int32)) H := hP
                have hD : va_D _ (mW cI cZ h b1 b2 b3 u d (upd (kl_setT tr qn w wo n) (nI (4096 * qn + n)).toNatClampNeg (vp_nar .boolean (0 : Int32))) (nI fn) (nI qn) sd (0 : Int32)) := hD
                have hP := Eq.mp (congrArg (fun z9 => va_P D vwCl (mW cI cZ h b1 b2 b3 u d z9 (nI fn) (nI qn) sd (0 : Int32)) H) (show upd (kl_setT tr qn w wo n) (nI (4096 * qn + n)).toNatClampNeg (vp_nar .boolean (0 : Int32)) = upd (kl_setT tr qn w wo n) (4096 * qn + n) (0 : Int32) from (by rw [nI_clamp (by omega), oo_vz0]))) hP
                have hP : va_P D vwCl (mW cI cZ h b1 b2 b3 u d (upd (kl_setT tr qn w wo n) (4096 * qn + n) (0 : Int32)) (nI fn) (nI qn) sd (0 : Int32)) H := hP
                have hD : va_D _ (mW cI cZ h b1 b2 b3 u d (upd (kl_setT tr qn w wo n) (4096 * qn + n) (0 : Int32)) (nI fn) (nI qn) sd (0 : Int32)) := oo_Dre hD (oo_fc (oo_fc (oo_fc (oo_fc rfl))))
                refine lv_iinc (v := nI (n + 1)) (lv' := [(3, .int (nI (n + 1))), (0, .ref h), (1, .int w), (2, .int wo)]) hx hb dX1_set_77 hl (k := 3) rfl (oo_inc n 1) (by decide) rfl (fun ls hl => ?_)
                refine lv_goto (tgt := 37) hx hb dX1_set_80 (by decide) ?_
                have hl : lv_has ls 4 [(0, .ref h), (1, .int w), (2, .int wo), (3, .int (nI (n + 1)))] := lv_sub hl [1, 2, 3, 0] rfl
                have hP := Eq.mp (congrArg (fun z9 => va_P D vwCl (mW cI cZ h b1 b2 b3 u d z9 (nI fn) (nI qn) sd (0 : Int32)) H) (show upd (kl_setT tr qn w wo n) (4096 * qn + n) (0 : Int32) = kl_setT tr qn w wo (n + 1) from (by first | (simp only [kl_setT]; done) | (simp only [kl_setT]; rw [if_pos c_62, if_neg c_68])))) hP
                have hP : va_P D vwCl (mW cI cZ h b1 b2 b3 u d (kl_setT tr qn w wo (n + 1)) (nI fn) (nI qn) sd (0 : Int32)) H := hP
                have hD : va_D _ (mW cI cZ h b1 b2 b3 u d (kl_setT tr qn w wo (n + 1)) (nI fn) (nI qn) sd (0 : Int32)) := oo_Dre hD (oo_fc (oo_fc (oo_fc (oo_fc rfl))))
                exact ihn _ _ _ ⟨hP, hD, hS, hl⟩
              · refine lv_iconst (v := (1 : Int32)) hx hb dX1_set_71 (by decide) ?_
                refine lv_goto (tgt := 76) hx hb dX1_set_72 (by decide) ?_
                refine va_zast hx hb hK hP hD hS 3 1 rfl rfl (vp_in_nI (by omega) (by omega)) dX1_set_76 (fun H locs hP hD hS => ?_)
                have hP : va_P D vwCl (mW cI cZ h b1 b2 b3 u d (upd (kl_setT tr qn w wo n) (nI (4096 * qn + n)).toNatClampNeg (vp_nar .boolean (1 : Int32))) (nI fn) (nI qn) sd (0 : Int32)) H := hP
                have hD : va_D _ (mW cI cZ h b1 b2 b3 u d (upd (kl_setT tr qn w wo n) (nI (4096 * qn + n)).toNatClampNeg (vp_nar .boolean (1 : Int32))) (nI fn) (nI qn) sd (0 : Int32)) := hD
                have hP := Eq.mp (congrArg (fun z9 => va_P D vwCl (mW cI cZ h b1 b2 b3 u d z9 (nI fn) (nI qn) sd (0 : Int32)) H) (show upd (kl_setT tr qn w wo n) (nI (4096 * qn + n)).toNatClampNeg (vp_nar .boolean (1 : Int32)) = upd (kl_setT tr qn w wo n) (4096 * qn + n) (1 : Int32) from (by rw [nI_clamp (by omega), oo_vz1]))) hP
                have hP : va_P D vwCl (mW cI cZ h b1 b2 b3 u d (upd (kl_setT tr qn w wo n) (4096 * qn + n) (1 : Int32)) (nI fn) (nI qn) sd (0 : Int32)) H := hP
                have hD : va_D _ (mW cI cZ h b1 b2 b3 u d (upd (kl_setT tr qn w wo n) (4096 * qn + n) (1 : Int32)) (nI fn) (nI qn) sd (0 : Int32)) := oo_Dre hD (oo_fc (oo_fc (oo_fc (oo_fc rfl))))
                refine lv_iinc (v := nI (n + 1)) (lv' := [(3, .int (nI (n + 1))), (0, .ref h), (1, .int w), (2, .int wo)]) hx hb dX1_set_77 hl (k := 3) rfl (oo_inc n 1) (by decide) rfl (fun ls hl => ?_)
                refine lv_goto (tgt := 37) hx hb dX1_set_80 (by decide) ?_
                have hl : lv_has ls 4 [(0, .ref h), (1, .int w), (2, .int wo), (3, .int (nI (n + 1)))] := lv_sub hl [1, 2, 3, 0] rfl
                have hP := Eq.mp (congrArg (fun z9 => va_P D vwCl (mW cI cZ h b1 b2 b3 u d z9 (nI fn) (nI qn) sd (0 : Int32)) H) (show upd (kl_setT tr qn w wo n) (4096 * qn + n) (1 : Int32) = kl_setT tr qn w wo (n + 1) from (by first | (simp only [kl_setT]; done) | (simp only [kl_setT]; rw [if_pos c_62, if_pos c_68])))) hP
                have hP : va_P D vwCl (mW cI cZ h b1 b2 b3 u d (kl_setT tr qn w wo (n + 1)) (nI fn) (nI qn) sd (0 : Int32)) H := hP
                have hD : va_D _ (mW cI cZ h b1 b2 b3 u d (kl_setT tr qn w wo (n + 1)) (nI fn) (nI qn) sd (0 : Int32)) := oo_Dre hD (oo_fc (oo_fc (oo_fc (oo_fc rfl))))
                exact ihn _ _ _ ⟨hP, hD, hS, hl⟩
      · refine lv_bipush (v := (-3 : Int32)) hx hb dX1_set_32 (by decide) ?_
        have hP := Eq.mp (congrArg (fun z9 => va_P D vwCl (mW cI cZ h b1 b2 b3 u d tr (nI fn) z9 sd (0 : Int32)) H) (show nI qn = kvX1_set_qc fn qn w wo from (by unfold kvX1_set_qc; rw [if_neg c_10, if_neg c_18, if_pos c_29]))) hP
        have hP := Eq.mp (congrArg (fun z9 => va_P D vwCl (mW cI cZ h b1 b2 b3 u d z9 (nI fn) (kvX1_set_qc fn qn w wo) sd (0 : Int32)) H) (show tr = kvX1_set_tr tr fn qn w wo from (by unfold kvX1_set_tr; rw [if_neg c_10, if_neg c_18, if_pos c_29]))) hP
        have hP : va_P D vwCl (mW cI cZ h b1 b2 b3 u d (kvX1_set_tr tr fn qn w wo) (nI fn) (kvX1_set_qc fn qn w wo) sd (0 : Int32)) H := hP
        have hD : va_D _ (mW cI cZ h b1 b2 b3 u d (kvX1_set_tr tr fn qn w wo) (nI fn) (kvX1_set_qc fn qn w wo) sd (0 : Int32)) := oo_Dre hD (oo_fc (oo_fc (oo_fc (oo_fc rfl))))
        exact mu_reti hx hb hr hlocks hP hD hS (by unfold kvX1_set; rw [if_neg c_10, if_neg c_18, if_pos c_29]) dX1_set_34
    · refine lv_iconst (v := (-1 : Int32)) hx hb dX1_set_21 (by decide) ?_
      have hP := Eq.mp (congrArg (fun z9 => va_P D vwCl (mW cI cZ h b1 b2 b3 u d tr (nI fn) z9 sd (0 : Int32)) H) (show nI qn = kvX1_set_qc fn qn w wo from (by unfold kvX1_set_qc; rw [if_neg c_10, if_pos c_18]))) hP
      have hP := Eq.mp (congrArg (fun z9 => va_P D vwCl (mW cI cZ h b1 b2 b3 u d z9 (nI fn) (kvX1_set_qc fn qn w wo) sd (0 : Int32)) H) (show tr = kvX1_set_tr tr fn qn w wo from (by unfold kvX1_set_tr; rw [if_neg c_10, if_pos c_18]))) hP
      have hP : va_P D vwCl (mW cI cZ h b1 b2 b3 u d (kvX1_set_tr tr fn qn w wo) (nI fn) (kvX1_set_qc fn qn w wo) sd (0 : Int32)) H := hP
      have hD : va_D _ (mW cI cZ h b1 b2 b3 u d (kvX1_set_tr tr fn qn w wo) (nI fn) (kvX1_set_qc fn qn w wo) sd (0 : Int32)) := oo_Dre hD (oo_fc (oo_fc (oo_fc (oo_fc rfl))))
      exact mu_reti hx hb hr hlocks hP hD hS (by unfold kvX1_set; rw [if_neg c_10, if_pos c_18]) dX1_set_22
def kl_size (w : Nat) : Nat → Nat
  | 0 => 0
  | n + 1 => kl_size w n + w / 2 ^ n % 2
theorem kl_size_stop {w n : Nat} (h : w / 2 ^ n = 0) : ∀ m, n ≤ m → kl_size w m = kl_size w n := by
  intro m hm
  induction hm with
  | refl => rfl
  | step hm ih =>
    rename_i k
    have h1 : w / 2 ^ k = 0 := by
      have h2 : 2 ^ n ≤ 2 ^ k := Nat.pow_le_pow_right (by omega) hm
      have h3 : w / 2 ^ k ≤ w / 2 ^ n := Nat.div_le_div_left h2 (Nat.two_pow_pos n)
      rw [h] at h3
      exact Nat.le_zero.mp h3
    show kl_size w k + w / 2 ^ k % 2 = kl_size w n
    rw [ih, h1]
    rfl
theorem oo_divlt {w n : Nat} (hw : w < 4096) : w / 2 ^ n < 4096 := Nat.lt_of_le_of_lt (Nat.div_le_self _ _) hw
theorem oo_pos0 {w : Nat} (hw : w < 4096) (h : nI w ≤ 0) : w = 0 := by
  rcases Nat.eq_zero_or_pos w with q | q
  · exact q
  · exact absurd h (nI_nle q (by omega))
theorem ok_X1_size : yX1_size.cls ≠ "java/lang/invoke/MethodHandle" ∧ yX1_size.cls ≠ "java/lang/invoke/VarHandle" ∧ (parseMethodDescriptor yX1_size.desc).map (fun d => d.parameters.length) = some 1 := by decide +kernel
set_option maxHeartbeats 4000000 in
set_option maxRecDepth 100000 in
theorem kX1_size (l : Launch) (D : va_G) (w : Nat)  (hw : w < 4096) : RoI l yX1_size wsX1_size ({ frames := 0, cells := 0, slots := 0, locals := 0 } : Room) [.int (nI w)] D ([]) [] (nI (kl_size w 12)) := by
  refine oo_head (C := RX1) (cc := cX1_size) (maxL := 3) (ret := (some .int)) (by decide) rfl rfl (Nat.le_of_ble_eq_true rfl) ?_
  intro p e s m below meth c hx hb hr hlocks hml hown hnm hts hpre ls hl
  have hl : lv_has ls 3 [(0, .int (nI w))] := hl
  obtain ⟨hP, hK⟩ := hpre
  have hS : va_S oo_N s.heap s.heap [] := va_S.rf
  refine lv_iconst (v := nI 0) hx hb dX1_size_0 (by decide) ?_
  refine lv_istore_n (lv' := [(1, .int (nI 0)), (0, .int (nI w))]) hx hb dX1_size_1 rfl hl (by decide) rfl (fun ls hl => ?_)
  refine lv_iload_n hx hb dX1_size_2 rfl (lv_at hl 1 rfl) ?_
  refine lv_istore_n (lv' := [(2, .int (nI w)), (1, .int (nI 0)), (0, .int (nI w))]) hx hb dX1_size_3 rfl hl (by decide) rfl (fun ls hl => ?_)
  have hl : lv_has ls 3 [(0, .int (nI w)), (1, .int (nI 0)), (2, .int (nI w))] := lv_sub hl [2, 1, 0] rfl
  have hl := Eq.mp (congrArg (fun z9 => lv_has ls 3 [(0, .int (nI w)), (1, .int z9), (2, .int (nI w))]) (show nI 0 = nI (kl_size w 0) from rfl)) hl
  have hl := Eq.mp (congrArg (fun z9 => lv_has ls 3 [(0, .int (nI w)), (1, .int (nI (kl_size w 0))), (2, .int z9)]) (show nI w = nI (w / 2 ^ 0) from (by rw [Nat.pow_zero, Nat.div_one]))) hl
  refine oo_loop (N := 12) (fun n H locs ls => va_P D vwCl ([]) H ∧ va_S (oo_N) s.heap H locs ∧ lv_has ls 3 [(0, .int (nI w)), (1, .int (nI (kl_size w n))), (2, .int (nI (w / 2 ^ n)))]) ?_ ?_ 0 (Nat.zero_le _) ⟨hP, hS, hl⟩
  · intro H locs ls hI
    obtain ⟨hP, hS, hl⟩ := hI
    refine lv_iload_n hx hb dX1_size_4 rfl (lv_at hl 2 rfl) ?_
    refine lv_if_le (tgt := 21) hx hb dX1_size_5 (by decide) (fun c_5 => ?_) (fun c_5 => ?_)
    · refine lv_iload_n hx hb dX1_size_21 rfl (lv_at hl 1 rfl) ?_
      exact ro_reti hx hb hr hlocks hS rfl dX1_size_22
    · exact absurd (by rw [show w / 2 ^ 12 = 0 from by omega]; decide) c_5
  · intro n hltn ihn H locs ls hI
    obtain ⟨hP, hS, hl⟩ := hI
    have hd := oo_divlt (n := n) hw
    refine lv_iload_n hx hb dX1_size_4 rfl (lv_at hl 2 rfl) ?_
    refine lv_if_le (tgt := 21) hx hb dX1_size_5 (by decide) (fun c_5 => ?_) (fun c_5 => ?_)
    · refine lv_iload_n hx hb dX1_size_21 rfl (lv_at hl 1 rfl) ?_
      exact ro_reti hx hb hr hlocks hS (congrArg nI (kl_size_stop (oo_pos0 (oo_divlt hw) c_5) 12 (by omega)).symm) dX1_size_22
    · refine lv_iload_n hx hb dX1_size_8 rfl (lv_at hl 1 rfl) ?_
      refine lv_iload_n hx hb dX1_size_9 rfl (lv_at hl 2 rfl) ?_
      refine lv_iconst (v := nI 2) hx hb dX1_size_10 (by decide) ?_
      refine lv_irem hx hb dX1_size_11 (by decide) ?_
      refine oo_topI (y := nI (w / 2 ^ n % 2)) (pk_rem (by omega) (by omega) (by omega)) ?_
      refine lv_iadd hx hb dX1_size_12 ?_
      refine oo_topI (y := nI (kl_size w n + w / 2 ^ n % 2)) (nI_add _ _) ?_
      refine lv_istore_n (lv' := [(1, .int (nI (kl_size w n + w / 2 ^ n % 2))), (0, .int (nI w)), (2, .int (nI (w / 2 ^ n)))]) hx hb dX1_size_13 rfl hl (by decide) rfl (fun ls hl => ?_)
      refine lv_iload_n hx hb dX1_size_14 rfl (lv_at hl 2 rfl) ?_
      refine lv_iconst (v := nI 2) hx hb dX1_size_15 (by decide) ?_
      refine lv_idiv hx hb dX1_size_16 (by decide) ?_
      refine oo_topI (y := nI (w / 2 ^ n / 2)) (pk_div (by omega) (by omega) (by omega)) ?_
      refine lv_istore_n (lv' := [(2, .int (nI (w / 2 ^ n / 2))), (1, .int (nI (kl_size w n + w / 2 ^ n % 2))), (0, .int (nI w))]) hx hb dX1_size_17 rfl hl (by decide) rfl (fun ls hl => ?_)
      refine lv_goto (tgt := 4) hx hb dX1_size_18 (by decide) ?_
      have hl : lv_has ls 3 [(0, .int (nI w)), (1, .int (nI (kl_size w n + w / 2 ^ n % 2))), (2, .int (nI (w / 2 ^ n / 2)))] := lv_sub hl [2, 1, 0] rfl
      have hl := Eq.mp (congrArg (fun z9 => lv_has ls 3 [(0, .int (nI w)), (1, .int z9), (2, .int (nI (w / 2 ^ n / 2)))]) (show nI (kl_size w n + w / 2 ^ n % 2) = nI (kl_size w (n + 1)) from (by first | (simp only [kl_size]; done) | (simp only [kl_size]; rw [if_neg c_5])))) hl
      have hl := Eq.mp (congrArg (fun z9 => lv_has ls 3 [(0, .int (nI w)), (1, .int (nI (kl_size w (n + 1)))), (2, .int z9)]) (show nI (w / 2 ^ n / 2) = nI (w / 2 ^ (n + 1)) from (by rw [Nat.pow_succ, Nat.div_div_eq_div_mul]))) hl
      exact ihn _ _ _ ⟨hP, hS, hl⟩
def kl_someT (tr : Nat → Int32) (qn : Nat) (fs lo hi : Int32) : Nat → Nat → Int32
  | 0 => tr
  | n + 1 => if nI (kl_size (n &&& fs.toNatClampNeg) 12) < lo then upd (kl_someT tr qn fs lo hi n) (4096 * qn + n) 0 else (if hi < nI (kl_size (n &&& fs.toNatClampNeg) 12) then upd (kl_someT tr qn fs lo hi n) (4096 * qn + n) 0 else upd (kl_someT tr qn fs lo hi n) (4096 * qn + n) 1)
theorem oo_fs {fs : Int32} {fn : Nat} (hfn : fn ≤ 12) (h : ¬ kvX1_areFacts fn fs = 0) : fs = nI fs.toNatClampNeg ∧ fs.toNatClampNeg < 2 ^ fn := by
  have h2 : 2 ^ fn ≤ 2 ^ 12 := Nat.pow_le_pow_right (by omega) hfn
  unfold kvX1_areFacts at h
  by_cases c1 : fs < 0
  · rw [if_pos c1] at h; exact absurd rfl h
  · rw [if_neg c1] at h
    by_cases c2 : nI (2 ^ fn) ≤ fs
    · rw [if_pos c2] at h; exact absurd rfl h
    · obtain ⟨j, h3, rfl, -⟩ := pk_mu c1 c2 (by omega)
      rw [nI_clamp (by omega)]
      exact ⟨rfl, h3⟩
theorem oo_andN (a b : Nat) : nI a &&& nI b = nI (a &&& b) := by
  apply Int32.toBitVec_inj.1
  show BitVec.ofNat 32 a &&& BitVec.ofNat 32 b = BitVec.ofNat 32 (a &&& b)
  apply BitVec.eq_of_getLsbD_eq
  intro i hi
  simp [hi]
theorem ok_X1_some : yX1_some.cls = RX1 ∧ yX1_some.cls ≠ "java/lang/invoke/MethodHandle" ∧ yX1_some.cls ≠ "java/lang/invoke/VarHandle" ∧ (parseMethodDescriptor yX1_some.desc).map (fun d => d.parameters.length) = some 3 := by decide +kernel
def kvX1_some (fn : Nat) (qn : Nat) (fs : Int32) : Int32 := if (kvX1_areFacts fn fs) = 0 then (-1 : Int32) else (if (nI qn) = (nI 40) then (-3 : Int32) else (nI qn))
def kvX1_some_tr (tr : Nat → Int32) (fn : Nat) (qn : Nat) (fs : Int32) (lo : Int32) (hi : Int32) : Nat → Int32 := if (kvX1_areFacts fn fs) = 0 then tr else (if (nI qn) = (nI 40) then tr else (kl_someT tr qn fs lo hi 4096))
def kvX1_some_qc (fn : Nat) (qn : Nat) (fs : Int32) : Int32 := if (kvX1_areFacts fn fs) = 0 then (nI qn) else (if (nI qn) = (nI 40) then (nI qn) else (nI (qn + 1)))
set_option maxHeartbeats 4000000 in
set_option maxRecDepth 100000 in
theorem kX1_some (l : Launch) (D : va_G) (cI : ClassId) (cZ : ClassId) (h b1 b2 b3 : Nat) (u d tr : Nat → Int32) (fn qn : Nat) (sd : Int64) (th : Int32) (fs : Int32) (lo : Int32) (hi : Int32) (hfn : fn ≤ 12) (hqn : qn ≤ 40) : MuI l yX1_some wsX1_some ({ frames := 1, cells := 0, slots := 0, locals := 22 } : Room) [.ref h, .int fs, .int lo, .int hi] D (mW cI cZ h b1 b2 b3 u d tr (nI fn) (nI qn) sd th) [(cI, .int), (cZ, .boolean)] (mW cI cZ h b1 b2 b3 u d (kvX1_some_tr tr fn qn fs lo hi) (nI fn) (kvX1_some_qc fn qn fs) sd (0 : Int32)) (kvX1_some fn qn fs) := by
  intro sz
  refine oo_head (C := RX1) (cc := cX1_some) (maxL := 6) (ret := (some .int)) (by decide) rfl rfl (Nat.le_of_ble_eq_true rfl) ?_
  intro p e s m below meth c hx hb hr hlocks hml hown hnm hts hpre ls hl
  have hl : lv_has ls 6 [(0, .ref h), (1, .int fs), (2, .int lo), (3, .int hi)] := hl
  obtain ⟨rfl, hP, hK, hD0⟩ := hpre
  have hD := hD0.self (sz := s.heap.size)
  have hA := oo_A (mW cI cZ h b1 b2 b3 u d tr (nI fn) (nI qn) sd th) s
  have hS : va_S (va_A (mW cI cZ h b1 b2 b3 u d tr (nI fn) (nI qn) sd th) s.heap.size) s.heap s.heap [] := va_S.rf
  have hin : ∀ w ∈ wsX10, w ∈ wsX1_some := fun w h => List.mem_cons_of_mem _ (List.mem_append_right _ h)
  refine lv_aload_n hx hb dX1_some_0 rfl (lv_at hl 0 rfl) ?_
  refine lv_iconst (v := (0 : Int32)) hx hb dX1_some_1 (by decide) ?_
  refine va_put (D := D) (ci := 1) (v := .int (0 : Int32)) (ty := .int) (C := RX1) (T := TX1) (N := 7) hx hb hts hin tyX1 tyX1_ok nmX1 hown hK hP hD hS 0 rfl rfl 6 (by decide) (hts (.fieldLink RX1 21 "OddsSamplingModel" "thrown" "I") (by decide +kernel)) (fun _ h9 => h9) rfl (by decide +kernel) rfl rfl (Nat.le_of_ble_eq_true rfl) dX1_some_2 (fun H locs hP hD hS => ?_)
  have hP : va_P D vwCl (mW cI cZ h b1 b2 b3 u d tr (nI fn) (nI qn) sd (0 : Int32)) H := hP
  have hD : va_D _ (mW cI cZ h b1 b2 b3 u d tr (nI fn) (nI qn) sd (0 : Int32)) := hD
  refine lv_aload_n hx hb dX1_some_5 rfl (lv_at hl 0 rfl) ?_
  refine lv_iload_n hx hb dX1_some_6 rfl (lv_at hl 1 rfl) ?_
  refine ro_calli (va_runV (As := [.int fs]) (rest := []) ⟨hx, hb, hml, hown, hts⟩ (kX1_areFacts l D cI cZ h b1 b2 b3 u d tr fn qn sd (0 : Int32) fs hfn) (cwV 1 hts gX1_some_X1_areFacts rfl rfl rfl ok_X1_areFacts ⟨Nat.le_of_ble_eq_true rfl, Nat.le_of_ble_eq_true rfl⟩) ⟨oo_blind, va_recv hK hP (ci := 1) (q0 := 0) rfl rfl, oo_ps hP hK [0, 1, 2, 3] rfl [0, 1] rfl⟩ rfl rfl hl.1 rfl (lv_room (Nat.le_of_ble_eq_true rfl)) dX1_some_7 ⟨Nat.le_of_ble_eq_true rfl, Nat.le_of_ble_eq_true rfl⟩) hP hS (fun H locs hP hS => ?_)
  refine lv_if_ne (tgt := 15) hx hb dX1_some_10 (by decide) (fun c_10 => ?_) (fun c_10 => ?_)
  · refine lv_aload_n hx hb dX1_some_15 rfl (lv_at hl 0 rfl) ?_
    refine va_get (D := D) (ci := 1) (v := .int (nI qn)) (C := RX1) (T := TX1) (N := 7) hx hb hts hin hown hK hP 0 rfl rfl 4 (by decide) (hts (.fieldLink RX1 25 "OddsSamplingModel" "questions" "I") (by decide +kernel)) (fun _ h9 => h9) rfl dX1_some_16 ?_
    refine lv_bipush (v := nI 40) hx hb dX1_some_19 (by decide) ?_
    refine lv_icmp_ne (tgt := 27) hx hb dX1_some_21 (by decide) (fun c_21 => ?_) (fun c_21 => ?_)
    · have hlt40 : qn < 40 := oo_ne40 hqn c_21
      obtain ⟨hf1, hf2⟩ := oo_fs hfn c_10
      have h2n : 2 ^ fn ≤ 2 ^ 12 := Nat.pow_le_pow_right (by omega) hfn
      refine lv_iconst (v := nI 0) hx hb dX1_some_27 (by decide) ?_
      refine lv_istore (lv' := [(4, .int (nI 0)), (0, .ref h), (1, .int fs), (2, .int lo), (3, .int hi)]) hx hb dX1_some_28 hl (by decide) rfl (fun ls hl => ?_)
      have hl : lv_has ls 6 [(0, .ref h), (1, .int fs), (2, .int lo), (3, .int hi), (4, .int (nI 0))] := lv_sub hl [1, 2, 3, 4, 0] rfl
      have hP := Eq.mp (congrArg (fun z9 => va_P D vwCl (mW cI cZ h b1 b2 b3 u d z9 (nI fn) (nI qn) sd (0 : Int32)) H) (show tr = kl_someT tr qn fs lo hi 0 from (by first | (simp only [kl_someT]; done) | (simp only [kl_someT]; rw [if_neg c_10, if_neg c_21])))) hP
      have hP : va_P D vwCl (mW cI cZ h b1 b2 b3 u d (kl_someT tr qn fs lo hi 0) (nI fn) (nI qn) sd (0 : Int32)) H := hP
      have hD : va_D _ (mW cI cZ h b1 b2 b3 u d (kl_someT tr qn fs lo hi 0) (nI fn) (nI qn) sd (0 : Int32)) := oo_Dre hD (oo_fc (oo_fc (oo_fc (oo_fc rfl))))
      refine oo_loop (N := 4096) (fun n H locs ls => va_P D vwCl (mW cI cZ h b1 b2 b3 u d (kl_someT tr qn fs lo hi n) (nI fn) (nI qn) sd (0 : Int32)) H ∧ va_D (va_A (mW cI cZ h b1 b2 b3 u d tr (nI fn) (nI qn) sd th) s.heap.size) (mW cI cZ h b1 b2 b3 u d (kl_someT tr qn fs lo hi n) (nI fn) (nI qn) sd (0 : Int32)) ∧ va_S (va_A (mW cI cZ h b1 b2 b3 u d tr (nI fn) (nI qn) sd th) s.heap.size) s.heap H locs ∧ lv_has ls 6 [(0, .ref h), (1, .int fs), (2, .int lo), (3, .int hi), (4, .int (nI n))]) ?_ ?_ 0 (Nat.zero_le _) ⟨hP, hD, hS, hl⟩
      · intro H locs ls hI
        obtain ⟨hP, hD, hS, hl⟩ := hI
        refine lv_iload hx hb dX1_some_30 (lv_at hl 4 rfl) ?_
        refine lv_sipush (v := nI 4096) hx hb dX1_some_32 (by decide) ?_
        refine lv_icmp_ge (tgt := 86) hx hb dX1_some_35 (by decide) (fun c_35 => ?_) (fun c_35 => ?_)
        · refine lv_aload_n hx hb dX1_some_86 rfl (lv_at hl 0 rfl) ?_
          refine lv_dup hx hb dX1_some_87 rfl ?_
          refine va_get (D := D) (ci := 1) (v := .int (nI qn)) (C := RX1) (T := TX1) (N := 7) hx hb hts hin hown hK hP 0 rfl rfl 4 (by decide) (hts (.fieldLink RX1 25 "OddsSamplingModel" "questions" "I") (by decide +kernel)) (fun _ h9 => h9) rfl dX1_some_88 ?_
          refine lv_iconst (v := (1 : Int32)) hx hb dX1_some_91 (by decide) ?_
          refine lv_iadd hx hb dX1_some_92 ?_
          refine oo_topI (y := nI (qn + 1)) (nI_1 qn) ?_
          refine va_put (D := D) (ci := 1) (v := .int (nI (qn + 1))) (ty := .int) (C := RX1) (T := TX1) (N := 7) hx hb hts hin tyX1 tyX1_ok nmX1 hown hK hP hD hS 0 rfl rfl 4 (by decide) (hts (.fieldLink RX1 25 "OddsSamplingModel" "questions" "I") (by decide +kernel)) (fun _ h9 => h9) rfl (by decide +kernel) rfl rfl (Nat.le_of_ble_eq_true rfl) dX1_some_93 (fun H locs hP hD hS => ?_)
          have hP : va_P D vwCl (mW cI cZ h b1 b2 b3 u d (kl_someT tr qn fs lo hi 4096) (nI fn) (nI (qn + 1)) sd (0 : Int32)) H := hP
          have hD : va_D _ (mW cI cZ h b1 b2 b3 u d (kl_someT tr qn fs lo hi 4096) (nI fn) (nI (qn + 1)) sd (0 : Int32)) := hD
          refine lv_aload_n hx hb dX1_some_96 rfl (lv_at hl 0 rfl) ?_
          refine va_get (D := D) (ci := 1) (v := .int (nI (qn + 1))) (C := RX1) (T := TX1) (N := 7) hx hb hts hin hown hK hP 0 rfl rfl 4 (by decide) (hts (.fieldLink RX1 25 "OddsSamplingModel" "questions" "I") (by decide +kernel)) (fun _ h9 => h9) rfl dX1_some_97 ?_
          refine lv_iconst (v := (1 : Int32)) hx hb dX1_some_100 (by decide) ?_
          refine lv_isub hx hb dX1_some_101 ?_
          refine oo_topI (y := nI qn) (nI_pred qn) ?_
          have hP := Eq.mp (congrArg (fun z9 => va_P D vwCl (mW cI cZ h b1 b2 b3 u d (kl_someT tr qn fs lo hi 4096) (nI fn) z9 sd (0 : Int32)) H) (show nI (qn + 1) = kvX1_some_qc fn qn fs from (by unfold kvX1_some_qc; rw [if_neg c_10, if_neg c_21]))) hP
          have hP := Eq.mp (congrArg (fun z9 => va_P D vwCl (mW cI cZ h b1 b2 b3 u d z9 (nI fn) (kvX1_some_qc fn qn fs) sd (0 : Int32)) H) (show kl_someT tr qn fs lo hi 4096 = kvX1_some_tr tr fn qn fs lo hi from (by unfold kvX1_some_tr; rw [if_neg c_10, if_neg c_21]))) hP
          have hP : va_P D vwCl (mW cI cZ h b1 b2 b3 u d (kvX1_some_tr tr fn qn fs lo hi) (nI fn) (kvX1_some_qc fn qn fs) sd (0 : Int32)) H := hP
          have hD : va_D _ (mW cI cZ h b1 b2 b3 u d (kvX1_some_tr tr fn qn fs lo hi) (nI fn) (kvX1_some_qc fn qn fs) sd (0 : Int32)) := oo_Dre hD (oo_fc (oo_fc (oo_fc (oo_fc rfl))))
          exact mu_reti hx hb hr hlocks hP hD hS (by unfold kvX1_some; rw [if_neg c_10, if_neg c_21]) dX1_some_102
        · exact absurd (nI_le (Nat.le_refl _) (by omega)) c_35
      · intro n hltn ihn H locs ls hI
        obtain ⟨hP, hD, hS, hl⟩ := hI
        refine lv_iload hx hb dX1_some_30 (lv_at hl 4 rfl) ?_
        refine lv_sipush (v := nI 4096) hx hb dX1_some_32 (by decide) ?_
        refine lv_icmp_ge (tgt := 86) hx hb dX1_some_35 (by decide) (fun c_35 => ?_) (fun c_35 => ?_)
        · exact absurd c_35 (nI_ge hltn (by omega))
        · refine lv_iload hx hb dX1_some_38 (lv_at hl 4 rfl) ?_
          refine lv_iload_n hx hb dX1_some_40 rfl (lv_at hl 1 rfl) ?_
          refine oo_topI (y := nI fs.toNatClampNeg) hf1 ?_
          refine lv_iand hx hb dX1_some_41 ?_
          refine oo_topI (y := nI (n &&& fs.toNatClampNeg)) (oo_andN _ _) ?_
          refine ro_calli (va_runS (As := [.int (nI (n &&& fs.toNatClampNeg))]) (rest := []) ⟨hx, hb, hml, hown, hts⟩ (kX1_size l D (n &&& fs.toNatClampNeg) (Nat.lt_of_le_of_lt Nat.and_le_left (by omega))) (va_cwS 1 hts gX1_some_X1_size rfl rfl rfl ok_X1_size ⟨Nat.le_of_ble_eq_true rfl, Nat.le_of_ble_eq_true rfl⟩) ⟨oo_blind, oo_ps hP hK [] rfl [] rfl⟩ rfl rfl hl.1 rfl (lv_room (Nat.le_of_ble_eq_true rfl)) dX1_some_42 ⟨Nat.le_of_ble_eq_true rfl, Nat.le_of_ble_eq_true rfl⟩) hP hS (fun H locs hP hS => ?_)
          refine lv_istore (lv' := [(5, .int (nI (kl_size (n &&& fs.toNatClampNeg) 12))), (0, .ref h), (1, .int fs), (2, .int lo), (3, .int hi), (4, .int (nI n))]) hx hb dX1_some_45 hl (by decide) rfl (fun ls hl => ?_)
          refine lv_aload_n hx hb dX1_some_47 rfl (lv_at hl 1 rfl) ?_
          refine va_get (D := D) (ci := 1) (v := .ref b3) (C := RX1) (T := TX1) (N := 7) hx hb hts hin hown hK hP 0 rfl rfl 3 (by decide) (hts (.fieldLink RX1 17 "OddsSamplingModel" "truths" "[Z") (by decide +kernel)) (fun _ h9 => h9) rfl dX1_some_48 ?_
          refine lv_sipush (v := nI 4096) hx hb dX1_some_51 (by decide) ?_
          refine lv_aload_n hx hb dX1_some_54 rfl (lv_at hl 1 rfl) ?_
          refine va_get (D := D) (ci := 1) (v := .int (nI qn)) (C := RX1) (T := TX1) (N := 7) hx hb hts hin hown hK hP 0 rfl rfl 4 (by decide) (hts (.fieldLink RX1 25 "OddsSamplingModel" "questions" "I") (by decide +kernel)) (fun _ h9 => h9) rfl dX1_some_55 ?_
          refine lv_imul hx hb dX1_some_58 ?_
          refine lv_iload hx hb dX1_some_59 (lv_at hl 5 rfl) ?_
          refine lv_iadd hx hb dX1_some_61 ?_
          refine oo_topI (y := nI (4096 * qn + n)) (by rw [pk_mul, nI_add]) ?_
          refine lv_iload hx hb dX1_some_62 (lv_at hl 0 rfl) ?_
          refine lv_iload_n hx hb dX1_some_64 rfl (lv_at hl 3 rfl) ?_
          refine lv_icmp_lt (tgt := 78) hx hb dX1_some_65 (by decide) (fun c_65 => ?_) (fun c_65 => ?_)
          · refine lv_iconst (v := (0 : Int32)) hx hb dX1_some_78 (by decide) ?_
            refine va_zast hx hb hK hP hD hS 3 1 rfl rfl (vp_in_nI (by omega) (by omega)) dX1_some_79 (fun H locs hP hD hS => ?_)
            have hP : va_P D vwCl (mW cI cZ h b1 b2 b3 u d (upd (kl_someT tr qn fs lo hi n) (nI (4096 * qn + n)).toNatClampNeg (vp_nar .boolean (0 : Int32))) (nI fn) (nI qn) sd (0 : Int32)) H := hP
            have hD : va_D _ (mW cI cZ h b1 b2 b3 u d (upd (kl_someT tr qn fs lo hi n) (nI (4096 * qn + n)).toNatClampNeg (vp_nar .boolean (0 : Int32))) (nI fn) (nI qn) sd (0 : Int32)) := hD
            have hP := Eq.mp (congrArg (fun z9 => va_P D vwCl (mW cI cZ h b1 b2 b3 u d z9 (nI fn) (nI qn) sd (0 : Int32)) H) (show upd (kl_someT tr qn fs lo hi n) (nI (4096 * qn + n)).toNatClampNeg (vp_nar .boolean (0 : Int32)) = upd (kl_someT tr qn fs lo hi n) (4096 * qn + n) (0 : Int32) from (by rw [nI_clamp (by omega), oo_vz0]))) hP
            have hP : va_P D vwCl (mW cI cZ h b1 b2 b3 u d (upd (kl_someT tr qn fs lo hi n) (4096 * qn + n) (0 : Int32)) (nI fn) (nI qn) sd (0 : Int32)) H := hP
            have hD : va_D _ (mW cI cZ h b1 b2 b3 u d (upd (kl_someT tr qn fs lo hi n) (4096 * qn + n) (0 : Int32)) (nI fn) (nI qn) sd (0 : Int32)) := oo_Dre hD (oo_fc (oo_fc (oo_fc (oo_fc rfl))))
            refine lv_iinc (v := nI (n + 1)) (lv' := [(4, .int (nI (n + 1))), (5, .int (nI (kl_size (n &&& fs.toNatClampNeg) 12))), (0, .ref h), (1, .int fs), (2, .int lo), (3, .int hi)]) hx hb dX1_some_80 hl (k := 5) rfl (oo_inc n 1) (by decide) rfl (fun ls hl => ?_)
            refine lv_goto (tgt := 30) hx hb dX1_some_83 (by decide) ?_
            have hl : lv_has ls 6 [(0, .ref h), (1, .int fs), (2, .int lo), (3, .int hi), (4, .int (nI (n + 1)))] := lv_sub hl [2, 3, 4, 5, 0] rfl
            have hP := Eq.mp (congrArg (fun z9 => va_P D vwCl (mW cI cZ h b1 b2 b3 u d z9 (nI fn) (nI qn) sd (0 : Int32)) H) (show upd (kl_someT tr qn fs lo hi n) (4096 * qn + n) (0 : Int32) = kl_someT tr qn fs lo hi (n + 1) from (by first | (simp only [kl_someT]; done) | (simp only [kl_someT]; rw [if_pos c_65])))) hP
            have hP : va_P D vwCl (mW cI cZ h b1 b2 b3 u d (kl_someT tr qn fs lo hi (n + 1)) (nI fn) (nI qn) sd (0 : Int32)) H := hP
            have hD : va_D _ (mW cI cZ h b1 b2 b3 u d (kl_someT tr qn fs lo hi (n + 1)) (nI fn) (nI qn) sd (0 : Int32)) := oo_Dre hD (oo_fc (oo_fc (oo_fc (oo_fc rfl))))
            exact ihn _ _ _ ⟨hP, hD, hS, hl⟩
          · refine lv_iload hx hb dX1_some_68 (lv_at hl 0 rfl) ?_
            refine lv_iload_n hx hb dX1_some_70 rfl (lv_at hl 4 rfl) ?_
            refine lv_icmp_gt (tgt := 78) hx hb dX1_some_71 (by decide) (fun c_71 => ?_) (fun c_71 => ?_)
            · refine lv_iconst (v := (0 : Int32)) hx hb dX1_some_78 (by decide) ?_
              refine va_zast hx hb hK hP hD hS 3 1 rfl rfl (vp_in_nI (by omega) (by omega)) dX1_some_79 (fun H locs hP hD hS => ?_)
              have hP : va_P D vwCl (mW cI cZ h b1 b2 b3 u d (upd (kl_someT tr qn fs lo hi n) (nI (4096 * qn + n)).toNatClampNeg (vp_nar .boolean (0 : Int32))) (nI fn) (nI qn) sd (0 : Int32)) H := hP
              have hD : va_D _ (mW cI cZ h b1 b2 b3 u d (upd (kl_someT tr qn fs lo hi n) (nI (4096 * qn + n)).toNatClampNeg (vp_nar .boolean (0 : Int32))) (nI fn) (nI qn) sd (0 : Int32)) := hD
              have hP := Eq.mp (congrArg (fun z9 => va_P D vwCl (mW cI cZ h b1 b2 b3 u d z9 (nI fn) (nI qn) sd (0 : Int32)) H) (show upd (kl_someT tr qn fs lo hi n) (nI (4096 * qn + n)).toNatClampNeg (vp_nar .boolean (0 : Int32)) = upd (kl_someT tr qn fs lo hi n) (4096 * qn + n) (0 : Int32) from (by rw [nI_clamp (by omega), oo_vz0]))) hP
              have hP : va_P D vwCl (mW cI cZ h b1 b2 b3 u d (upd (kl_someT tr qn fs lo hi n) (4096 * qn + n) (0 : Int32)) (nI fn) (nI qn) sd (0 : Int32)) H := hP
              have hD : va_D _ (mW cI cZ h b1 b2 b3 u d (upd (kl_someT tr qn fs lo hi n) (4096 * qn + n) (0 : Int32)) (nI fn) (nI qn) sd (0 : Int32)) := oo_Dre hD (oo_fc (oo_fc (oo_fc (oo_fc rfl))))
              refine lv_iinc (v := nI (n + 1)) (lv' := [(4, .int (nI (n + 1))), (5, .int (nI (kl_size (n &&& fs.toNatClampNeg) 12))), (0, .ref h), (1, .int fs), (2, .int lo), (3, .int hi)]) hx hb dX1_some_80 hl (k := 5) rfl (oo_inc n 1) (by decide) rfl (fun ls hl => ?_)
              refine lv_goto (tgt := 30) hx hb dX1_some_83 (by decide) ?_
              have hl : lv_has ls 6 [(0, .ref h), (1, .int fs), (2, .int lo), (3, .int hi), (4, .int (nI (n + 1)))] := lv_sub hl [2, 3, 4, 5, 0] rfl
              have hP := Eq.mp (congrArg (fun z9 => va_P D vwCl (mW cI cZ h b1 b2 b3 u d z9 (nI fn) (nI qn) sd (0 : Int32)) H) (show upd (kl_someT tr qn fs lo hi n) (4096 * qn + n) (0 : Int32) = kl_someT tr qn fs lo hi (n + 1) from (by first | (simp only [kl_someT]; done) | (simp only [kl_someT]; rw [if_neg c_65, if_pos c_71])))) hP
              have hP : va_P D vwCl (mW cI cZ h b1 b2 b3 u d (kl_someT tr qn fs lo hi (n + 1)) (nI fn) (nI qn) sd (0 : Int32)) H := hP
              have hD : va_D _ (mW cI cZ h b1 b2 b3 u d (kl_someT tr qn fs lo hi (n + 1)) (nI fn) (nI qn) sd (0 : Int32)) := oo_Dre hD (oo_fc (oo_fc (oo_fc (oo_fc rfl))))
              exact ihn _ _ _ ⟨hP, hD, hS, hl⟩
            · refine lv_iconst (v := (1 : Int32)) hx hb dX1_some_74 (by decide) ?_
              refine lv_goto (tgt := 79) hx hb dX1_some_75 (by decide) ?_
              refine va_zast hx hb hK hP hD hS 3 1 rfl rfl (vp_in_nI (by omega) (by omega)) dX1_some_79 (fun H locs hP hD hS => ?_)
              have hP : va_P D vwCl (mW cI cZ h b1 b2 b3 u d (upd (kl_someT tr qn fs lo hi n) (nI (4096 * qn + n)).toNatClampNeg (vp_nar .boolean (1 : Int32))) (nI fn) (nI qn) sd (0 : Int32)) H := hP
              have hD : va_D _ (mW cI cZ h b1 b2 b3 u d (upd (kl_someT tr qn fs lo hi n) (nI (4096 * qn + n)).toNatClampNeg (vp_nar .boolean (1 : Int32))) (nI fn) (nI qn) sd (0 : Int32)) := hD
              have hP := Eq.mp (congrArg (fun z9 => va_P D vwCl (mW cI cZ h b1 b2 b3 u d z9 (nI fn) (nI qn) sd (0 : Int32)) H) (show upd (kl_someT tr qn fs lo hi n) (nI (4096 * qn + n)).toNatClampNeg (vp_nar .boolean (1 : Int32)) = upd (kl_someT tr qn fs lo hi n) (4096 * qn + n) (1 : Int32) from (by rw [nI_clamp (by omega), oo_vz1]))) hP
              have hP : va_P D vwCl (mW cI cZ h b1 b2 b3 u d (upd (kl_someT tr qn fs lo hi n) (4096 * qn + n) (1 : Int32)) (nI fn) (nI qn) sd (0 : Int32)) H := hP
              have hD : va_D _ (mW cI cZ h b1 b2 b3 u d (upd (kl_someT tr qn fs lo hi n) (4096 * qn + n) (1 : Int32)) (nI fn) (nI qn) sd (0 : Int32)) := oo_Dre hD (oo_fc (oo_fc (oo_fc (oo_fc rfl))))
              refine lv_iinc (v := nI (n + 1)) (lv' := [(4, .int (nI (n + 1))), (5, .int (nI (kl_size (n &&& fs.toNatClampNeg) 12))), (0, .ref h), (1, .int fs), (2, .int lo), (3, .int hi)]) hx hb dX1_some_80 hl (k := 5) rfl (oo_inc n 1) (by decide) rfl (fun ls hl => ?_)
              refine lv_goto (tgt := 30) hx hb dX1_some_83 (by decide) ?_
              have hl : lv_has ls 6 [(0, .ref h), (1, .int fs), (2, .int lo), (3, .int hi), (4, .int (nI (n + 1)))] := lv_sub hl [2, 3, 4, 5, 0] rfl
              have hP := Eq.mp (congrArg (fun z9 => va_P D vwCl (mW cI cZ h b1 b2 b3 u d z9 (nI fn) (nI qn) sd (0 : Int32)) H) (show upd (kl_someT tr qn fs lo hi n) (4096 * qn + n) (1 : Int32) = kl_someT tr qn fs lo hi (n + 1) from (by first | (simp only [kl_someT]; done) | (simp only [kl_someT]; rw [if_neg c_65, if_neg c_71])))) hP
              have hP : va_P D vwCl (mW cI cZ h b1 b2 b3 u d (kl_someT tr qn fs lo hi (n + 1)) (nI fn) (nI qn) sd (0 : Int32)) H := hP
              have hD : va_D _ (mW cI cZ h b1 b2 b3 u d (kl_someT tr qn fs lo hi (n + 1)) (nI fn) (nI qn) sd (0 : Int32)) := oo_Dre hD (oo_fc (oo_fc (oo_fc (oo_fc rfl))))
              exact ihn _ _ _ ⟨hP, hD, hS, hl⟩
    · refine lv_bipush (v := (-3 : Int32)) hx hb dX1_some_24 (by decide) ?_
      have hP := Eq.mp (congrArg (fun z9 => va_P D vwCl (mW cI cZ h b1 b2 b3 u d tr (nI fn) z9 sd (0 : Int32)) H) (show nI qn = kvX1_some_qc fn qn fs from (by unfold kvX1_some_qc; rw [if_neg c_10, if_pos c_21]))) hP
      have hP := Eq.mp (congrArg (fun z9 => va_P D vwCl (mW cI cZ h b1 b2 b3 u d z9 (nI fn) (kvX1_some_qc fn qn fs) sd (0 : Int32)) H) (show tr = kvX1_some_tr tr fn qn fs lo hi from (by unfold kvX1_some_tr; rw [if_neg c_10, if_pos c_21]))) hP
      have hP : va_P D vwCl (mW cI cZ h b1 b2 b3 u d (kvX1_some_tr tr fn qn fs lo hi) (nI fn) (kvX1_some_qc fn qn fs) sd (0 : Int32)) H := hP
      have hD : va_D _ (mW cI cZ h b1 b2 b3 u d (kvX1_some_tr tr fn qn fs lo hi) (nI fn) (kvX1_some_qc fn qn fs) sd (0 : Int32)) := oo_Dre hD (oo_fc (oo_fc (oo_fc (oo_fc rfl))))
      exact mu_reti hx hb hr hlocks hP hD hS (by unfold kvX1_some; rw [if_neg c_10, if_pos c_21]) dX1_some_26
  · refine lv_iconst (v := (-1 : Int32)) hx hb dX1_some_13 (by decide) ?_
    have hP := Eq.mp (congrArg (fun z9 => va_P D vwCl (mW cI cZ h b1 b2 b3 u d tr (nI fn) z9 sd (0 : Int32)) H) (show nI qn = kvX1_some_qc fn qn fs from (by unfold kvX1_some_qc; rw [if_pos c_10]))) hP
    have hP := Eq.mp (congrArg (fun z9 => va_P D vwCl (mW cI cZ h b1 b2 b3 u d z9 (nI fn) (kvX1_some_qc fn qn fs) sd (0 : Int32)) H) (show tr = kvX1_some_tr tr fn qn fs lo hi from (by unfold kvX1_some_tr; rw [if_pos c_10]))) hP
    have hP : va_P D vwCl (mW cI cZ h b1 b2 b3 u d (kvX1_some_tr tr fn qn fs lo hi) (nI fn) (kvX1_some_qc fn qn fs) sd (0 : Int32)) H := hP
    have hD : va_D _ (mW cI cZ h b1 b2 b3 u d (kvX1_some_tr tr fn qn fs lo hi) (nI fn) (kvX1_some_qc fn qn fs) sd (0 : Int32)) := oo_Dre hD (oo_fc (oo_fc (oo_fc (oo_fc rfl))))
    exact mu_reti hx hb hr hlocks hP hD hS (by unfold kvX1_some; rw [if_pos c_10]) dX1_some_14
def kl_jv (op x y : Int32) : Int32 := if op = 0 then (if x = 0 then 0 else if y = 0 then 0 else 1) else if op = 1 then (if x = 0 then (if y = 0 then 0 else 1) else 1) else if op = 2 then (if x = y then 0 else 1) else (if x = 0 then 1 else 0)
def kl_joinT (tr : Nat → Int32) (qn : Nat) (op : Int32) (q r : Nat) : Nat → Nat → Int32
  | 0 => tr
  | n + 1 => upd (kl_joinT tr qn op q r n) (4096 * qn + n) (kl_jv op (kl_joinT tr qn op q r n (4096 * q + n)) (if 3 ≤ op then 0 else if kl_joinT tr qn op q r n (4096 * r + n) = 0 then 0 else 1))
theorem kl_joinT_01 {tr : Nat → Int32} {qn : Nat} {op : Int32} {q r : Nat} (h : oo_01 tr) : ∀ n, oo_01 (kl_joinT tr qn op q r n)
  | 0 => h
  | n + 1 => by
    intro j
    show upd _ _ _ j = 0 ∨ upd _ _ _ j = 1
    unfold upd
    split
    · unfold kl_jv
      repeat' split
      all_goals first | exact Or.inl rfl | exact Or.inr rfl
    · exact kl_joinT_01 h n j
theorem ok_X1_join : yX1_join.cls = RX1 ∧ yX1_join.cls ≠ "java/lang/invoke/MethodHandle" ∧ yX1_join.cls ≠ "java/lang/invoke/VarHandle" ∧ (parseMethodDescriptor yX1_join.desc).map (fun d => d.parameters.length) = some 3 := by decide +kernel
def kvX1_join (qn : Nat) (op : Int32) (q : Int32) (r : Int32) : Int32 := if op < 0 then (-1 : Int32) else (if (3 : Int32) < op then (-1 : Int32) else (if (kvX1_isQuestion qn q) = 0 then (-1 : Int32) else (if (3 : Int32) ≤ op then (if (nI qn) = (nI 40) then (-3 : Int32) else (nI qn)) else (if (kvX1_isQuestion qn r) = 0 then (-1 : Int32) else (if (nI qn) = (nI 40) then (-3 : Int32) else (nI qn))))))
def kvX1_join_tr (tr : Nat → Int32) (qn : Nat) (op : Int32) (q : Int32) (r : Int32) : Nat → Int32 := if op < 0 then tr else (if (3 : Int32) < op then tr else (if (kvX1_isQuestion qn q) = 0 then tr else (if (3 : Int32) ≤ op then (if (nI qn) = (nI 40) then tr else (kl_joinT tr qn op q.toNatClampNeg r.toNatClampNeg 4096)) else (if (kvX1_isQuestion qn r) = 0 then tr else (if (nI qn) = (nI 40) then tr else (kl_joinT tr qn op q.toNatClampNeg r.toNatClampNeg 4096))))))
def kvX1_join_qc (qn : Nat) (op : Int32) (q : Int32) (r : Int32) : Int32 := if op < 0 then (nI qn) else (if (3 : Int32) < op then (nI qn) else (if (kvX1_isQuestion qn q) = 0 then (nI qn) else (if (3 : Int32) ≤ op then (if (nI qn) = (nI 40) then (nI qn) else (nI (qn + 1))) else (if (kvX1_isQuestion qn r) = 0 then (nI qn) else (if (nI qn) = (nI 40) then (nI qn) else (nI (qn + 1)))))))
set_option maxHeartbeats 4000000 in
set_option maxRecDepth 100000 in
theorem kX1_join (l : Launch) (D : va_G) (cI : ClassId) (cZ : ClassId) (h b1 b2 b3 : Nat) (u d tr : Nat → Int32) (fn qn : Nat) (sd : Int64) (th : Int32) (op : Int32) (q : Int32) (r : Int32) (hfn : fn ≤ 12) (hqn : qn ≤ 40) (h01 : oo_01 tr) : MuI l yX1_join wsX1_join ({ frames := 1, cells := 0, slots := 0, locals := 22 } : Room) [.ref h, .int op, .int q, .int r] D (mW cI cZ h b1 b2 b3 u d tr (nI fn) (nI qn) sd th) [(cI, .int), (cZ, .boolean)] (mW cI cZ h b1 b2 b3 u d (kvX1_join_tr tr qn op q r) (nI fn) (kvX1_join_qc qn op q r) sd (0 : Int32)) (kvX1_join qn op q r) := by
  intro sz
  refine oo_head (C := RX1) (cc := cX1_join) (maxL := 7) (ret := (some .int)) (by decide) rfl rfl (Nat.le_of_ble_eq_true rfl) ?_
  intro p e s m below meth c hx hb hr hlocks hml hown hnm hts hpre ls hl
  have hl : lv_has ls 7 [(0, .ref h), (1, .int op), (2, .int q), (3, .int r)] := hl
  obtain ⟨rfl, hP, hK, hD0⟩ := hpre
  have hD := hD0.self (sz := s.heap.size)
  have hA := oo_A (mW cI cZ h b1 b2 b3 u d tr (nI fn) (nI qn) sd th) s
  have hS : va_S (va_A (mW cI cZ h b1 b2 b3 u d tr (nI fn) (nI qn) sd th) s.heap.size) s.heap s.heap [] := va_S.rf
  have hin : ∀ w ∈ wsX10, w ∈ wsX1_join := fun w h => List.mem_cons_of_mem _ (List.mem_append_right _ h)
  refine lv_aload_n hx hb dX1_join_0 rfl (lv_at hl 0 rfl) ?_
  refine lv_iconst (v := (0 : Int32)) hx hb dX1_join_1 (by decide) ?_
  refine va_put (D := D) (ci := 1) (v := .int (0 : Int32)) (ty := .int) (C := RX1) (T := TX1) (N := 7) hx hb hts hin tyX1 tyX1_ok nmX1 hown hK hP hD hS 0 rfl rfl 6 (by decide) (hts (.fieldLink RX1 21 "OddsSamplingModel" "thrown" "I") (by decide +kernel)) (fun _ h9 => h9) rfl (by decide +kernel) rfl rfl (Nat.le_of_ble_eq_true rfl) dX1_join_2 (fun H locs hP hD hS => ?_)
  have hP : va_P D vwCl (mW cI cZ h b1 b2 b3 u d tr (nI fn) (nI qn) sd (0 : Int32)) H := hP
  have hD : va_D _ (mW cI cZ h b1 b2 b3 u d tr (nI fn) (nI qn) sd (0 : Int32)) := hD
  refine lv_iload_n hx hb dX1_join_5 rfl (lv_at hl 1 rfl) ?_
  refine lv_if_lt (tgt := 35) hx hb dX1_join_6 (by decide) (fun c_6 => ?_) (fun c_6 => ?_)
  · refine lv_iconst (v := (-1 : Int32)) hx hb dX1_join_35 (by decide) ?_
    have hP := Eq.mp (congrArg (fun z9 => va_P D vwCl (mW cI cZ h b1 b2 b3 u d tr (nI fn) z9 sd (0 : Int32)) H) (show nI qn = kvX1_join_qc qn op q r from (by unfold kvX1_join_qc; rw [if_pos c_6]))) hP
    have hP := Eq.mp (congrArg (fun z9 => va_P D vwCl (mW cI cZ h b1 b2 b3 u d z9 (nI fn) (kvX1_join_qc qn op q r) sd (0 : Int32)) H) (show tr = kvX1_join_tr tr qn op q r from (by unfold kvX1_join_tr; rw [if_pos c_6]))) hP
    have hP : va_P D vwCl (mW cI cZ h b1 b2 b3 u d (kvX1_join_tr tr qn op q r) (nI fn) (kvX1_join_qc qn op q r) sd (0 : Int32)) H := hP
    have hD : va_D _ (mW cI cZ h b1 b2 b3 u d (kvX1_join_tr tr qn op q r) (nI fn) (kvX1_join_qc qn op q r) sd (0 : Int32)) := oo_Dre hD (oo_fc (oo_fc (oo_fc (oo_fc rfl))))
    exact mu_reti hx hb hr hlocks hP hD hS (by unfold kvX1_join; rw [if_pos c_6]) dX1_join_36
  · refine lv_iload_n hx hb dX1_join_9 rfl (lv_at hl 1 rfl) ?_
    refine lv_iconst (v := (3 : Int32)) hx hb dX1_join_10 (by decide) ?_
    refine lv_icmp_gt (tgt := 35) hx hb dX1_join_11 (by decide) (fun c_11 => ?_) (fun c_11 => ?_)
    · refine lv_iconst (v := (-1 : Int32)) hx hb dX1_join_35 (by decide) ?_
      have hP := Eq.mp (congrArg (fun z9 => va_P D vwCl (mW cI cZ h b1 b2 b3 u d tr (nI fn) z9 sd (0 : Int32)) H) (show nI qn = kvX1_join_qc qn op q r from (by unfold kvX1_join_qc; rw [if_neg c_6, if_pos c_11]))) hP
      have hP := Eq.mp (congrArg (fun z9 => va_P D vwCl (mW cI cZ h b1 b2 b3 u d z9 (nI fn) (kvX1_join_qc qn op q r) sd (0 : Int32)) H) (show tr = kvX1_join_tr tr qn op q r from (by unfold kvX1_join_tr; rw [if_neg c_6, if_pos c_11]))) hP
      have hP : va_P D vwCl (mW cI cZ h b1 b2 b3 u d (kvX1_join_tr tr qn op q r) (nI fn) (kvX1_join_qc qn op q r) sd (0 : Int32)) H := hP
      have hD : va_D _ (mW cI cZ h b1 b2 b3 u d (kvX1_join_tr tr qn op q r) (nI fn) (kvX1_join_qc qn op q r) sd (0 : Int32)) := oo_Dre hD (oo_fc (oo_fc (oo_fc (oo_fc rfl))))
      exact mu_reti hx hb hr hlocks hP hD hS (by unfold kvX1_join; rw [if_neg c_6, if_pos c_11]) dX1_join_36
    · refine lv_aload_n hx hb dX1_join_14 rfl (lv_at hl 0 rfl) ?_
      refine lv_iload_n hx hb dX1_join_15 rfl (lv_at hl 2 rfl) ?_
      refine ro_calli (va_runV (As := [.int q]) (rest := []) ⟨hx, hb, hml, hown, hts⟩ (kX1_isQuestion l D cI cZ h b1 b2 b3 u d tr fn qn sd (0 : Int32) q) (cwV 1 hts gX1_join_X1_isQuestion rfl rfl rfl ok_X1_isQuestion ⟨Nat.le_of_ble_eq_true rfl, Nat.le_of_ble_eq_true rfl⟩) ⟨oo_blind, va_recv hK hP (ci := 1) (q0 := 0) rfl rfl, oo_ps hP hK [0, 1, 2, 3] rfl [0, 1] rfl⟩ rfl rfl hl.1 rfl (lv_room (Nat.le_of_ble_eq_true rfl)) dX1_join_16 ⟨Nat.le_of_ble_eq_true rfl, Nat.le_of_ble_eq_true rfl⟩) hP hS (fun H locs hP hS => ?_)
      refine lv_if_eq (tgt := 35) hx hb dX1_join_19 (by decide) (fun c_19 => ?_) (fun c_19 => ?_)
      · refine lv_iconst (v := (-1 : Int32)) hx hb dX1_join_35 (by decide) ?_
        have hP := Eq.mp (congrArg (fun z9 => va_P D vwCl (mW cI cZ h b1 b2 b3 u d tr (nI fn) z9 sd (0 : Int32)) H) (show nI qn = kvX1_join_qc qn op q r from (by unfold kvX1_join_qc; rw [if_neg c_6, if_neg c_11, if_pos c_19]))) hP
        have hP := Eq.mp (congrArg (fun z9 => va_P D vwCl (mW cI cZ h b1 b2 b3 u d z9 (nI fn) (kvX1_join_qc qn op q r) sd (0 : Int32)) H) (show tr = kvX1_join_tr tr qn op q r from (by unfold kvX1_join_tr; rw [if_neg c_6, if_neg c_11, if_pos c_19]))) hP
        have hP : va_P D vwCl (mW cI cZ h b1 b2 b3 u d (kvX1_join_tr tr qn op q r) (nI fn) (kvX1_join_qc qn op q r) sd (0 : Int32)) H := hP
        have hD : va_D _ (mW cI cZ h b1 b2 b3 u d (kvX1_join_tr tr qn op q r) (nI fn) (kvX1_join_qc qn op q r) sd (0 : Int32)) := oo_Dre hD (oo_fc (oo_fc (oo_fc (oo_fc rfl))))
        exact mu_reti hx hb hr hlocks hP hD hS (by unfold kvX1_join; rw [if_neg c_6, if_neg c_11, if_pos c_19]) dX1_join_36
      · refine lv_iload_n hx hb dX1_join_22 rfl (lv_at hl 1 rfl) ?_
        refine lv_iconst (v := (3 : Int32)) hx hb dX1_join_23 (by decide) ?_
        refine lv_icmp_ge (tgt := 37) hx hb dX1_join_24 (by decide) (fun c_24 => ?_) (fun c_24 => ?_)
        · have hr9 : ¬ 3 ≤ op → ¬ kvX1_isQuestion qn r = 0 := fun z => absurd c_24 z
          refine lv_aload_n hx hb dX1_join_37 rfl (lv_at hl 0 rfl) ?_
          refine va_get (D := D) (ci := 1) (v := .int (nI qn)) (C := RX1) (T := TX1) (N := 7) hx hb hts hin hown hK hP 0 rfl rfl 4 (by decide) (hts (.fieldLink RX1 25 "OddsSamplingModel" "questions" "I") (by decide +kernel)) (fun _ h9 => h9) rfl dX1_join_38 ?_
          refine lv_bipush (v := nI 40) hx hb dX1_join_41 (by decide) ?_
          refine lv_icmp_ne (tgt := 49) hx hb dX1_join_43 (by decide) (fun c_43 => ?_) (fun c_43 => ?_)
          · have hlt40 : qn < 40 := oo_ne40 hqn c_43
            obtain ⟨hq1, hq2⟩ := oo_isQ hqn c_19
            refine lv_iconst (v := nI 0) hx hb dX1_join_49 (by decide) ?_
            refine lv_istore (lv' := [(4, .int (nI 0)), (0, .ref h), (1, .int op), (2, .int q), (3, .int r)]) hx hb dX1_join_50 hl (by decide) rfl (fun ls hl => ?_)
            have hl : lv_has ls 7 [(0, .ref h), (1, .int op), (2, .int q), (3, .int r), (4, .int (nI 0))] := lv_sub hl [1, 2, 3, 4, 0] rfl
            have hP := Eq.mp (congrArg (fun z9 => va_P D vwCl (mW cI cZ h b1 b2 b3 u d z9 (nI fn) (nI qn) sd (0 : Int32)) H) (show tr = kl_joinT tr qn op q.toNatClampNeg r.toNatClampNeg 0 from (by first | (simp only [kl_joinT]; done) | (simp only [kl_joinT]; rw [if_neg c_6, if_neg c_11, if_neg c_19, if_pos c_24, if_neg c_43])))) hP
            have hP : va_P D vwCl (mW cI cZ h b1 b2 b3 u d (kl_joinT tr qn op q.toNatClampNeg r.toNatClampNeg 0) (nI fn) (nI qn) sd (0 : Int32)) H := hP
            have hD : va_D _ (mW cI cZ h b1 b2 b3 u d (kl_joinT tr qn op q.toNatClampNeg r.toNatClampNeg 0) (nI fn) (nI qn) sd (0 : Int32)) := oo_Dre hD (oo_fc (oo_fc (oo_fc (oo_fc rfl))))
            refine oo_loop (N := 4096) (fun n H locs ls => va_P D vwCl (mW cI cZ h b1 b2 b3 u d (kl_joinT tr qn op q.toNatClampNeg r.toNatClampNeg n) (nI fn) (nI qn) sd (0 : Int32)) H ∧ va_D (va_A (mW cI cZ h b1 b2 b3 u d tr (nI fn) (nI qn) sd th) s.heap.size) (mW cI cZ h b1 b2 b3 u d (kl_joinT tr qn op q.toNatClampNeg r.toNatClampNeg n) (nI fn) (nI qn) sd (0 : Int32)) ∧ va_S (va_A (mW cI cZ h b1 b2 b3 u d tr (nI fn) (nI qn) sd th) s.heap.size) s.heap H locs ∧ lv_has ls 7 [(0, .ref h), (1, .int op), (2, .int q), (3, .int r), (4, .int (nI n))]) ?_ ?_ 0 (Nat.zero_le _) ⟨hP, hD, hS, hl⟩
            · intro H locs ls hI
              obtain ⟨hP, hD, hS, hl⟩ := hI
              refine lv_iload hx hb dX1_join_52 (lv_at hl 4 rfl) ?_
              refine lv_sipush (v := nI 4096) hx hb dX1_join_54 (by decide) ?_
              refine lv_icmp_ge (tgt := 188) hx hb dX1_join_57 (by decide) (fun c_57 => ?_) (fun c_57 => ?_)
              · refine lv_aload_n hx hb dX1_join_188 rfl (lv_at hl 0 rfl) ?_
                refine lv_dup hx hb dX1_join_189 rfl ?_
                refine va_get (D := D) (ci := 1) (v := .int (nI qn)) (C := RX1) (T := TX1) (N := 7) hx hb hts hin hown hK hP 0 rfl rfl 4 (by decide) (hts (.fieldLink RX1 25 "OddsSamplingModel" "questions" "I") (by decide +kernel)) (fun _ h9 => h9) rfl dX1_join_190 ?_
                refine lv_iconst (v := (1 : Int32)) hx hb dX1_join_193 (by decide) ?_
                refine lv_iadd hx hb dX1_join_194 ?_
                refine oo_topI (y := nI (qn + 1)) (nI_1 qn) ?_
                refine va_put (D := D) (ci := 1) (v := .int (nI (qn + 1))) (ty := .int) (C := RX1) (T := TX1) (N := 7) hx hb hts hin tyX1 tyX1_ok nmX1 hown hK hP hD hS 0 rfl rfl 4 (by decide) (hts (.fieldLink RX1 25 "OddsSamplingModel" "questions" "I") (by decide +kernel)) (fun _ h9 => h9) rfl (by decide +kernel) rfl rfl (Nat.le_of_ble_eq_true rfl) dX1_join_195 (fun H locs hP hD hS => ?_)
                have hP : va_P D vwCl (mW cI cZ h b1 b2 b3 u d (kl_joinT tr qn op q.toNatClampNeg r.toNatClampNeg 4096) (nI fn) (nI (qn + 1)) sd (0 : Int32)) H := hP
                have hD : va_D _ (mW cI cZ h b1 b2 b3 u d (kl_joinT tr qn op q.toNatClampNeg r.toNatClampNeg 4096) (nI fn) (nI (qn + 1)) sd (0 : Int32)) := hD
                refine lv_aload_n hx hb dX1_join_198 rfl (lv_at hl 0 rfl) ?_
                refine va_get (D := D) (ci := 1) (v := .int (nI (qn + 1))) (C := RX1) (T := TX1) (N := 7) hx hb hts hin hown hK hP 0 rfl rfl 4 (by decide) (hts (.fieldLink RX1 25 "OddsSamplingModel" "questions" "I") (by decide +kernel)) (fun _ h9 => h9) rfl dX1_join_199 ?_
                refine lv_iconst (v := (1 : Int32)) hx hb dX1_join_202 (by decide) ?_
                refine lv_isub hx hb dX1_join_203 ?_
                refine oo_topI (y := nI qn) (nI_pred qn) ?_
                have hP := Eq.mp (congrArg (fun z9 => va_P D vwCl (mW cI cZ h b1 b2 b3 u d (kl_joinT tr qn op q.toNatClampNeg r.toNatClampNeg 4096) (nI fn) z9 sd (0 : Int32)) H) (show nI (qn + 1) = kvX1_join_qc qn op q r from (by unfold kvX1_join_qc; rw [if_neg c_6, if_neg c_11, if_neg c_19, if_pos c_24, if_neg c_43]))) hP
                have hP := Eq.mp (congrArg (fun z9 => va_P D vwCl (mW cI cZ h b1 b2 b3 u d z9 (nI fn) (kvX1_join_qc qn op q r) sd (0 : Int32)) H) (show kl_joinT tr qn op q.toNatClampNeg r.toNatClampNeg 4096 = kvX1_join_tr tr qn op q r from (by unfold kvX1_join_tr; rw [if_neg c_6, if_neg c_11, if_neg c_19, if_pos c_24, if_neg c_43]))) hP
                have hP : va_P D vwCl (mW cI cZ h b1 b2 b3 u d (kvX1_join_tr tr qn op q r) (nI fn) (kvX1_join_qc qn op q r) sd (0 : Int32)) H := hP
                have hD : va_D _ (mW cI cZ h b1 b2 b3 u d (kvX1_join_tr tr qn op q r) (nI fn) (kvX1_join_qc qn op q r) sd (0 : Int32)) := oo_Dre hD (oo_fc (oo_fc (oo_fc (oo_fc rfl))))
                exact mu_reti hx hb hr hlocks hP hD hS (by unfold kvX1_join; rw [if_neg c_6, if_neg c_11, if_neg c_19, if_pos c_24, if_neg c_43]) dX1_join_204
              · exact absurd (nI_le (Nat.le_refl _) (by omega)) c_57
            · intro n hltn ihn H locs ls hI
              obtain ⟨hP, hD, hS, hl⟩ := hI
              refine lv_iload hx hb dX1_join_52 (lv_at hl 4 rfl) ?_
              refine lv_sipush (v := nI 4096) hx hb dX1_join_54 (by decide) ?_
              refine lv_icmp_ge (tgt := 188) hx hb dX1_join_57 (by decide) (fun c_57 => ?_) (fun c_57 => ?_)
              · exact absurd c_57 (nI_ge hltn (by omega))
              · refine lv_aload_n hx hb dX1_join_60 rfl (lv_at hl 0 rfl) ?_
                refine lv_iload_n hx hb dX1_join_61 rfl (lv_at hl 2 rfl) ?_
                refine oo_topI (y := nI q.toNatClampNeg) hq1 ?_
                refine lv_iload hx hb dX1_join_62 (lv_at hl 4 rfl) ?_
                refine ro_calli (va_runV (As := [.int (nI q.toNatClampNeg), .int (nI n)]) (rest := []) ⟨hx, hb, hml, hown, hts⟩ (kX1_isTrue l D cI cZ h b1 b2 b3 u d (kl_joinT tr qn op q.toNatClampNeg r.toNatClampNeg n) fn qn sd (0 : Int32) q.toNatClampNeg n (by omega) (by omega) (kl_joinT_01 h01 n)) (cwV 2 hts gX1_join_X1_isTrue rfl rfl rfl ok_X1_isTrue ⟨Nat.le_of_ble_eq_true rfl, Nat.le_of_ble_eq_true rfl⟩) ⟨oo_blind, va_recv hK hP (ci := 1) (q0 := 0) rfl rfl, oo_ps hP hK [0, 1, 2, 3] rfl [0, 1] rfl⟩ rfl rfl hl.1 rfl (lv_room (Nat.le_of_ble_eq_true rfl)) dX1_join_64 ⟨Nat.le_of_ble_eq_true rfl, Nat.le_of_ble_eq_true rfl⟩) hP hS (fun H locs hP hS => ?_)
                refine lv_istore (lv' := [(5, .int ((kl_joinT tr qn op q.toNatClampNeg r.toNatClampNeg n) (4096 * q.toNatClampNeg + n))), (0, .ref h), (1, .int op), (2, .int q), (3, .int r), (4, .int (nI n))]) hx hb dX1_join_67 hl (by decide) rfl (fun ls hl => ?_)
                refine lv_iload_n hx hb dX1_join_69 rfl (lv_at hl 2 rfl) ?_
                refine lv_iconst (v := (3 : Int32)) hx hb dX1_join_70 (by decide) ?_
                refine lv_icmp_ge (tgt := 88) hx hb dX1_join_71 (by decide) (fun c_71 => ?_) (fun c_71 => ?_)
                · refine lv_iconst (v := (0 : Int32)) hx hb dX1_join_88 (by decide) ?_
                  refine lv_istore (lv' := [(6, .int (0 : Int32)), (5, .int ((kl_joinT tr qn op q.toNatClampNeg r.toNatClampNeg n) (4096 * q.toNatClampNeg + n))), (0, .ref h), (1, .int op), (2, .int q), (3, .int r), (4, .int (nI n))]) hx hb dX1_join_89 hl (by decide) rfl (fun ls hl => ?_)
                  refine lv_aload_n hx hb dX1_join_91 rfl (lv_at hl 2 rfl) ?_
                  refine va_get (D := D) (ci := 1) (v := .ref b3) (C := RX1) (T := TX1) (N := 7) hx hb hts hin hown hK hP 0 rfl rfl 3 (by decide) (hts (.fieldLink RX1 17 "OddsSamplingModel" "truths" "[Z") (by decide +kernel)) (fun _ h9 => h9) rfl dX1_join_92 ?_
                  refine lv_sipush (v := nI 4096) hx hb dX1_join_95 (by decide) ?_
                  refine lv_aload_n hx hb dX1_join_98 rfl (lv_at hl 2 rfl) ?_
                  refine va_get (D := D) (ci := 1) (v := .int (nI qn)) (C := RX1) (T := TX1) (N := 7) hx hb hts hin hown hK hP 0 rfl rfl 4 (by decide) (hts (.fieldLink RX1 25 "OddsSamplingModel" "questions" "I") (by decide +kernel)) (fun _ h9 => h9) rfl dX1_join_99 ?_
                  refine lv_imul hx hb dX1_join_102 ?_
                  refine lv_iload hx hb dX1_join_103 (lv_at hl 6 rfl) ?_
                  refine lv_iadd hx hb dX1_join_105 ?_
                  refine oo_topI (y := nI (4096 * qn + n)) (by rw [pk_mul, nI_add]) ?_
                  refine lv_iload_n hx hb dX1_join_106 rfl (lv_at hl 3 rfl) ?_
                  refine lv_if_ne (tgt := 128) hx hb dX1_join_107 (by decide) (fun c_107 => ?_) (fun c_107 => ?_)
                  · refine lv_iload_n hx hb dX1_join_128 rfl (lv_at hl 3 rfl) ?_
                    refine lv_iconst (v := (1 : Int32)) hx hb dX1_join_129 (by decide) ?_
                    refine lv_icmp_ne (tgt := 151) hx hb dX1_join_130 (by decide) (fun c_130 => ?_) (fun c_130 => ?_)
                    · refine lv_iload_n hx hb dX1_join_151 rfl (lv_at hl 3 rfl) ?_
                      refine lv_iconst (v := (2 : Int32)) hx hb dX1_join_152 (by decide) ?_
                      refine lv_icmp_ne (tgt := 171) hx hb dX1_join_153 (by decide) (fun c_153 => ?_) (fun c_153 => ?_)
                      · refine lv_iload hx hb dX1_join_171 (lv_at hl 1 rfl) ?_
                        refine lv_if_ne (tgt := 180) hx hb dX1_join_173 (by decide) (fun c_173 => ?_) (fun c_173 => ?_)
                        · refine lv_iconst (v := (0 : Int32)) hx hb dX1_join_180 (by decide) ?_
                          refine va_zast hx hb hK hP hD hS 3 1 rfl rfl (vp_in_nI (by omega) (by omega)) dX1_join_181 (fun H locs hP hD hS => ?_)
                          have hP : va_P D vwCl (mW cI cZ h b1 b2 b3 u d (upd (kl_joinT tr qn op q.toNatClampNeg r.toNatClampNeg n) (nI (4096 * qn + n)).toNatClampNeg (vp_nar .boolean (0 : Int32))) (nI fn) (nI qn) sd (0 : Int32)) H := hP
                          have hD : va_D _ (mW cI cZ h b1 b2 b3 u d (upd (kl_joinT tr qn op q.toNatClampNeg r.toNatClampNeg n) (nI (4096 * qn + n)).toNatClampNeg (vp_nar .boolean (0 : Int32))) (nI fn) (nI qn) sd (0 : Int32)) := hD
                          have hP := Eq.mp (congrArg (fun z9 => va_P D vwCl (mW cI cZ h b1 b2 b3 u d z9 (nI fn) (nI qn) sd (0 : Int32)) H) (show upd (kl_joinT tr qn op q.toNatClampNeg r.toNatClampNeg n) (nI (4096 * qn + n)).toNatClampNeg (vp_nar .boolean (0 : Int32)) = upd (kl_joinT tr qn op q.toNatClampNeg r.toNatClampNeg n) (4096 * qn + n) (0 : Int32) from (by rw [nI_clamp (by omega), oo_vz0]))) hP
                          have hP : va_P D vwCl (mW cI cZ h b1 b2 b3 u d (upd (kl_joinT tr qn op q.toNatClampNeg r.toNatClampNeg n) (4096 * qn + n) (0 : Int32)) (nI fn) (nI qn) sd (0 : Int32)) H := hP
                          have hD : va_D _ (mW cI cZ h b1 b2 b3 u d (upd (kl_joinT tr qn op q.toNatClampNeg r.toNatClampNeg n) (4096 * qn + n) (0 : Int32)) (nI fn) (nI qn) sd (0 : Int32)) := oo_Dre hD (oo_fc (oo_fc (oo_fc (oo_fc rfl))))
                          refine lv_iinc (v := nI (n + 1)) (lv' := [(4, .int (nI (n + 1))), (6, .int (0 : Int32)), (5, .int ((kl_joinT tr qn op q.toNatClampNeg r.toNatClampNeg n) (4096 * q.toNatClampNeg + n))), (0, .ref h), (1, .int op), (2, .int q), (3, .int r)]) hx hb dX1_join_182 hl (k := 6) rfl (oo_inc n 1) (by decide) rfl (fun ls hl => ?_)
                          refine lv_goto (tgt := 52) hx hb dX1_join_185 (by decide) ?_
                          have hl : lv_has ls 7 [(0, .ref h), (1, .int op), (2, .int q), (3, .int r), (4, .int (nI (n + 1)))] := lv_sub hl [3, 4, 5, 6, 0] rfl
                          have hP := Eq.mp (congrArg (fun z9 => va_P D vwCl (mW cI cZ h b1 b2 b3 u d z9 (nI fn) (nI qn) sd (0 : Int32)) H) (show upd (kl_joinT tr qn op q.toNatClampNeg r.toNatClampNeg n) (4096 * qn + n) (0 : Int32) = kl_joinT tr qn op q.toNatClampNeg r.toNatClampNeg (n + 1) from (by simp only [kl_joinT, kl_jv]; rw [if_pos c_71, if_neg c_107, if_neg c_130, if_neg c_153, if_neg c_173]))) hP
                          have hP : va_P D vwCl (mW cI cZ h b1 b2 b3 u d (kl_joinT tr qn op q.toNatClampNeg r.toNatClampNeg (n + 1)) (nI fn) (nI qn) sd (0 : Int32)) H := hP
                          have hD : va_D _ (mW cI cZ h b1 b2 b3 u d (kl_joinT tr qn op q.toNatClampNeg r.toNatClampNeg (n + 1)) (nI fn) (nI qn) sd (0 : Int32)) := oo_Dre hD (oo_fc (oo_fc (oo_fc (oo_fc rfl))))
                          exact ihn _ _ _ ⟨hP, hD, hS, hl⟩
                        · refine lv_iconst (v := (1 : Int32)) hx hb dX1_join_176 (by decide) ?_
                          refine lv_goto (tgt := 181) hx hb dX1_join_177 (by decide) ?_
                          refine va_zast hx hb hK hP hD hS 3 1 rfl rfl (vp_in_nI (by omega) (by omega)) dX1_join_181 (fun H locs hP hD hS => ?_)
                          have hP : va_P D vwCl (mW cI cZ h b1 b2 b3 u d (upd (kl_joinT tr qn op q.toNatClampNeg r.toNatClampNeg n) (nI (4096 * qn + n)).toNatClampNeg (vp_nar .boolean (1 : Int32))) (nI fn) (nI qn) sd (0 : Int32)) H := hP
                          have hD : va_D _ (mW cI cZ h b1 b2 b3 u d (upd (kl_joinT tr qn op q.toNatClampNeg r.toNatClampNeg n) (nI (4096 * qn + n)).toNatClampNeg (vp_nar .boolean (1 : Int32))) (nI fn) (nI qn) sd (0 : Int32)) := hD
                          have hP := Eq.mp (congrArg (fun z9 => va_P D vwCl (mW cI cZ h b1 b2 b3 u d z9 (nI fn) (nI qn) sd (0 : Int32)) H) (show upd (kl_joinT tr qn op q.toNatClampNeg r.toNatClampNeg n) (nI (4096 * qn + n)).toNatClampNeg (vp_nar .boolean (1 : Int32)) = upd (kl_joinT tr qn op q.toNatClampNeg r.toNatClampNeg n) (4096 * qn + n) (1 : Int32) from (by rw [nI_clamp (by omega), oo_vz1]))) hP
                          have hP : va_P D vwCl (mW cI cZ h b1 b2 b3 u d (upd (kl_joinT tr qn op q.toNatClampNeg r.toNatClampNeg n) (4096 * qn + n) (1 : Int32)) (nI fn) (nI qn) sd (0 : Int32)) H := hP
                          have hD : va_D _ (mW cI cZ h b1 b2 b3 u d (upd (kl_joinT tr qn op q.toNatClampNeg r.toNatClampNeg n) (4096 * qn + n) (1 : Int32)) (nI fn) (nI qn) sd (0 : Int32)) := oo_Dre hD (oo_fc (oo_fc (oo_fc (oo_fc rfl))))
                          refine lv_iinc (v := nI (n + 1)) (lv' := [(4, .int (nI (n + 1))), (6, .int (0 : Int32)), (5, .int ((kl_joinT tr qn op q.toNatClampNeg r.toNatClampNeg n) (4096 * q.toNatClampNeg + n))), (0, .ref h), (1, .int op), (2, .int q), (3, .int r)]) hx hb dX1_join_182 hl (k := 6) rfl (oo_inc n 1) (by decide) rfl (fun ls hl => ?_)
                          refine lv_goto (tgt := 52) hx hb dX1_join_185 (by decide) ?_
                          have hl : lv_has ls 7 [(0, .ref h), (1, .int op), (2, .int q), (3, .int r), (4, .int (nI (n + 1)))] := lv_sub hl [3, 4, 5, 6, 0] rfl
                          have hP := Eq.mp (congrArg (fun z9 => va_P D vwCl (mW cI cZ h b1 b2 b3 u d z9 (nI fn) (nI qn) sd (0 : Int32)) H) (show upd (kl_joinT tr qn op q.toNatClampNeg r.toNatClampNeg n) (4096 * qn + n) (1 : Int32) = kl_joinT tr qn op q.toNatClampNeg r.toNatClampNeg (n + 1) from (by simp only [kl_joinT, kl_jv]; rw [if_pos c_71, if_neg c_107, if_neg c_130, if_neg c_153, if_pos c_173]))) hP
                          have hP : va_P D vwCl (mW cI cZ h b1 b2 b3 u d (kl_joinT tr qn op q.toNatClampNeg r.toNatClampNeg (n + 1)) (nI fn) (nI qn) sd (0 : Int32)) H := hP
                          have hD : va_D _ (mW cI cZ h b1 b2 b3 u d (kl_joinT tr qn op q.toNatClampNeg r.toNatClampNeg (n + 1)) (nI fn) (nI qn) sd (0 : Int32)) := oo_Dre hD (oo_fc (oo_fc (oo_fc (oo_fc rfl))))
                          exact ihn _ _ _ ⟨hP, hD, hS, hl⟩
                      · refine lv_iload hx hb dX1_join_156 (lv_at hl 1 rfl) ?_
                        refine lv_iload hx hb dX1_join_158 (lv_at hl 0 rfl) ?_
                        refine lv_icmp_eq (tgt := 167) hx hb dX1_join_160 (by decide) (fun c_160 => ?_) (fun c_160 => ?_)
                        · refine lv_iconst (v := (0 : Int32)) hx hb dX1_join_167 (by decide) ?_
                          refine lv_goto (tgt := 181) hx hb dX1_join_168 (by decide) ?_
                          refine va_zast hx hb hK hP hD hS 3 1 rfl rfl (vp_in_nI (by omega) (by omega)) dX1_join_181 (fun H locs hP hD hS => ?_)
                          have hP : va_P D vwCl (mW cI cZ h b1 b2 b3 u d (upd (kl_joinT tr qn op q.toNatClampNeg r.toNatClampNeg n) (nI (4096 * qn + n)).toNatClampNeg (vp_nar .boolean (0 : Int32))) (nI fn) (nI qn) sd (0 : Int32)) H := hP
                          have hD : va_D _ (mW cI cZ h b1 b2 b3 u d (upd (kl_joinT tr qn op q.toNatClampNeg r.toNatClampNeg n) (nI (4096 * qn + n)).toNatClampNeg (vp_nar .boolean (0 : Int32))) (nI fn) (nI qn) sd (0 : Int32)) := hD
                          have hP := Eq.mp (congrArg (fun z9 => va_P D vwCl (mW cI cZ h b1 b2 b3 u d z9 (nI fn) (nI qn) sd (0 : Int32)) H) (show upd (kl_joinT tr qn op q.toNatClampNeg r.toNatClampNeg n) (nI (4096 * qn + n)).toNatClampNeg (vp_nar .boolean (0 : Int32)) = upd (kl_joinT tr qn op q.toNatClampNeg r.toNatClampNeg n) (4096 * qn + n) (0 : Int32) from (by rw [nI_clamp (by omega), oo_vz0]))) hP
                          have hP : va_P D vwCl (mW cI cZ h b1 b2 b3 u d (upd (kl_joinT tr qn op q.toNatClampNeg r.toNatClampNeg n) (4096 * qn + n) (0 : Int32)) (nI fn) (nI qn) sd (0 : Int32)) H := hP
                          have hD : va_D _ (mW cI cZ h b1 b2 b3 u d (upd (kl_joinT tr qn op q.toNatClampNeg r.toNatClampNeg n) (4096 * qn + n) (0 : Int32)) (nI fn) (nI qn) sd (0 : Int32)) := oo_Dre hD (oo_fc (oo_fc (oo_fc (oo_fc rfl))))
                          refine lv_iinc (v := nI (n + 1)) (lv' := [(4, .int (nI (n + 1))), (6, .int (0 : Int32)), (5, .int ((kl_joinT tr qn op q.toNatClampNeg r.toNatClampNeg n) (4096 * q.toNatClampNeg + n))), (0, .ref h), (1, .int op), (2, .int q), (3, .int r)]) hx hb dX1_join_182 hl (k := 6) rfl (oo_inc n 1) (by decide) rfl (fun ls hl => ?_)
                          refine lv_goto (tgt := 52) hx hb dX1_join_185 (by decide) ?_
                          have hl : lv_has ls 7 [(0, .ref h), (1, .int op), (2, .int q), (3, .int r), (4, .int (nI (n + 1)))] := lv_sub hl [3, 4, 5, 6, 0] rfl
                          have hP := Eq.mp (congrArg (fun z9 => va_P D vwCl (mW cI cZ h b1 b2 b3 u d z9 (nI fn) (nI qn) sd (0 : Int32)) H) (show upd (kl_joinT tr qn op q.toNatClampNeg r.toNatClampNeg n) (4096 * qn + n) (0 : Int32) = kl_joinT tr qn op q.toNatClampNeg r.toNatClampNeg (n + 1) from (by simp only [kl_joinT, kl_jv]; rw [if_pos c_71, if_neg c_107, if_neg c_130, if_pos c_153, if_pos c_160]))) hP
                          have hP : va_P D vwCl (mW cI cZ h b1 b2 b3 u d (kl_joinT tr qn op q.toNatClampNeg r.toNatClampNeg (n + 1)) (nI fn) (nI qn) sd (0 : Int32)) H := hP
                          have hD : va_D _ (mW cI cZ h b1 b2 b3 u d (kl_joinT tr qn op q.toNatClampNeg r.toNatClampNeg (n + 1)) (nI fn) (nI qn) sd (0 : Int32)) := oo_Dre hD (oo_fc (oo_fc (oo_fc (oo_fc rfl))))
                          exact ihn _ _ _ ⟨hP, hD, hS, hl⟩
                        · refine lv_iconst (v := (1 : Int32)) hx hb dX1_join_163 (by decide) ?_
                          refine lv_goto (tgt := 181) hx hb dX1_join_164 (by decide) ?_
                          refine va_zast hx hb hK hP hD hS 3 1 rfl rfl (vp_in_nI (by omega) (by omega)) dX1_join_181 (fun H locs hP hD hS => ?_)
                          have hP : va_P D vwCl (mW cI cZ h b1 b2 b3 u d (upd (kl_joinT tr qn op q.toNatClampNeg r.toNatClampNeg n) (nI (4096 * qn + n)).toNatClampNeg (vp_nar .boolean (1 : Int32))) (nI fn) (nI qn) sd (0 : Int32)) H := hP
                          have hD : va_D _ (mW cI cZ h b1 b2 b3 u d (upd (kl_joinT tr qn op q.toNatClampNeg r.toNatClampNeg n) (nI (4096 * qn + n)).toNatClampNeg (vp_nar .boolean (1 : Int32))) (nI fn) (nI qn) sd (0 : Int32)) := hD
                          have hP := Eq.mp (congrArg (fun z9 => va_P D vwCl (mW cI cZ h b1 b2 b3 u d z9 (nI fn) (nI qn) sd (0 : Int32)) H) (show upd (kl_joinT tr qn op q.toNatClampNeg r.toNatClampNeg n) (nI (4096 * qn + n)).toNatClampNeg (vp_nar .boolean (1 : Int32)) = upd (kl_joinT tr qn op q.toNatClampNeg r.toNatClampNeg n) (4096 * qn + n) (1 : Int32) from (by rw [nI_clamp (by omega), oo_vz1]))) hP
                          have hP : va_P D vwCl (mW cI cZ h b1 b2 b3 u d (upd (kl_joinT tr qn op q.toNatClampNeg r.toNatClampNeg n) (4096 * qn + n) (1 : Int32)) (nI fn) (nI qn) sd (0 : Int32)) H := hP
                          have hD : va_D _ (mW cI cZ h b1 b2 b3 u d (upd (kl_joinT tr qn op q.toNatClampNeg r.toNatClampNeg n) (4096 * qn + n) (1 : Int32)) (nI fn) (nI qn) sd (0 : Int32)) := oo_Dre hD (oo_fc (oo_fc (oo_fc (oo_fc rfl))))
                          refine lv_iinc (v := nI (n + 1)) (lv' := [(4, .int (nI (n + 1))), (6, .int (0 : Int32)), (5, .int ((kl_joinT tr qn op q.toNatClampNeg r.toNatClampNeg n) (4096 * q.toNatClampNeg + n))), (0, .ref h), (1, .int op), (2, .int q), (3, .int r)]) hx hb dX1_join_182 hl (k := 6) rfl (oo_inc n 1) (by decide) rfl (fun ls hl => ?_)
                          refine lv_goto (tgt := 52) hx hb dX1_join_185 (by decide) ?_
                          have hl : lv_has ls 7 [(0, .ref h), (1, .int op), (2, .int q), (3, .int r), (4, .int (nI (n + 1)))] := lv_sub hl [3, 4, 5, 6, 0] rfl
                          have hP := Eq.mp (congrArg (fun z9 => va_P D vwCl (mW cI cZ h b1 b2 b3 u d z9 (nI fn) (nI qn) sd (0 : Int32)) H) (show upd (kl_joinT tr qn op q.toNatClampNeg r.toNatClampNeg n) (4096 * qn + n) (1 : Int32) = kl_joinT tr qn op q.toNatClampNeg r.toNatClampNeg (n + 1) from (by simp only [kl_joinT, kl_jv]; rw [if_pos c_71, if_neg c_107, if_neg c_130, if_pos c_153, if_neg c_160]))) hP
                          have hP : va_P D vwCl (mW cI cZ h b1 b2 b3 u d (kl_joinT tr qn op q.toNatClampNeg r.toNatClampNeg (n + 1)) (nI fn) (nI qn) sd (0 : Int32)) H := hP
                          have hD : va_D _ (mW cI cZ h b1 b2 b3 u d (kl_joinT tr qn op q.toNatClampNeg r.toNatClampNeg (n + 1)) (nI fn) (nI qn) sd (0 : Int32)) := oo_Dre hD (oo_fc (oo_fc (oo_fc (oo_fc rfl))))
                          exact ihn _ _ _ ⟨hP, hD, hS, hl⟩
                    · refine lv_iload hx hb dX1_join_133 (lv_at hl 1 rfl) ?_
                      refine lv_if_ne (tgt := 143) hx hb dX1_join_135 (by decide) (fun c_135 => ?_) (fun c_135 => ?_)
                      · refine lv_iconst (v := (1 : Int32)) hx hb dX1_join_143 (by decide) ?_
                        refine lv_goto (tgt := 181) hx hb dX1_join_144 (by decide) ?_
                        refine va_zast hx hb hK hP hD hS 3 1 rfl rfl (vp_in_nI (by omega) (by omega)) dX1_join_181 (fun H locs hP hD hS => ?_)
                        have hP : va_P D vwCl (mW cI cZ h b1 b2 b3 u d (upd (kl_joinT tr qn op q.toNatClampNeg r.toNatClampNeg n) (nI (4096 * qn + n)).toNatClampNeg (vp_nar .boolean (1 : Int32))) (nI fn) (nI qn) sd (0 : Int32)) H := hP
                        have hD : va_D _ (mW cI cZ h b1 b2 b3 u d (upd (kl_joinT tr qn op q.toNatClampNeg r.toNatClampNeg n) (nI (4096 * qn + n)).toNatClampNeg (vp_nar .boolean (1 : Int32))) (nI fn) (nI qn) sd (0 : Int32)) := hD
                        have hP := Eq.mp (congrArg (fun z9 => va_P D vwCl (mW cI cZ h b1 b2 b3 u d z9 (nI fn) (nI qn) sd (0 : Int32)) H) (show upd (kl_joinT tr qn op q.toNatClampNeg r.toNatClampNeg n) (nI (4096 * qn + n)).toNatClampNeg (vp_nar .boolean (1 : Int32)) = upd (kl_joinT tr qn op q.toNatClampNeg r.toNatClampNeg n) (4096 * qn + n) (1 : Int32) from (by rw [nI_clamp (by omega), oo_vz1]))) hP
                        have hP : va_P D vwCl (mW cI cZ h b1 b2 b3 u d (upd (kl_joinT tr qn op q.toNatClampNeg r.toNatClampNeg n) (4096 * qn + n) (1 : Int32)) (nI fn) (nI qn) sd (0 : Int32)) H := hP
                        have hD : va_D _ (mW cI cZ h b1 b2 b3 u d (upd (kl_joinT tr qn op q.toNatClampNeg r.toNatClampNeg n) (4096 * qn + n) (1 : Int32)) (nI fn) (nI qn) sd (0 : Int32)) := oo_Dre hD (oo_fc (oo_fc (oo_fc (oo_fc rfl))))
                        refine lv_iinc (v := nI (n + 1)) (lv' := [(4, .int (nI (n + 1))), (6, .int (0 : Int32)), (5, .int ((kl_joinT tr qn op q.toNatClampNeg r.toNatClampNeg n) (4096 * q.toNatClampNeg + n))), (0, .ref h), (1, .int op), (2, .int q), (3, .int r)]) hx hb dX1_join_182 hl (k := 6) rfl (oo_inc n 1) (by decide) rfl (fun ls hl => ?_)
                        refine lv_goto (tgt := 52) hx hb dX1_join_185 (by decide) ?_
                        have hl : lv_has ls 7 [(0, .ref h), (1, .int op), (2, .int q), (3, .int r), (4, .int (nI (n + 1)))] := lv_sub hl [3, 4, 5, 6, 0] rfl
                        have hP := Eq.mp (congrArg (fun z9 => va_P D vwCl (mW cI cZ h b1 b2 b3 u d z9 (nI fn) (nI qn) sd (0 : Int32)) H) (show upd (kl_joinT tr qn op q.toNatClampNeg r.toNatClampNeg n) (4096 * qn + n) (1 : Int32) = kl_joinT tr qn op q.toNatClampNeg r.toNatClampNeg (n + 1) from (by simp only [kl_joinT, kl_jv]; rw [if_pos c_71, if_neg c_107, if_pos c_130, if_neg c_135]))) hP
                        have hP : va_P D vwCl (mW cI cZ h b1 b2 b3 u d (kl_joinT tr qn op q.toNatClampNeg r.toNatClampNeg (n + 1)) (nI fn) (nI qn) sd (0 : Int32)) H := hP
                        have hD : va_D _ (mW cI cZ h b1 b2 b3 u d (kl_joinT tr qn op q.toNatClampNeg r.toNatClampNeg (n + 1)) (nI fn) (nI qn) sd (0 : Int32)) := oo_Dre hD (oo_fc (oo_fc (oo_fc (oo_fc rfl))))
                        exact ihn _ _ _ ⟨hP, hD, hS, hl⟩
                      · refine lv_iload hx hb dX1_join_138 (lv_at hl 0 rfl) ?_
                        refine lv_if_eq (tgt := 147) hx hb dX1_join_140 (by decide) (fun c_140 => ?_) (fun c_140 => ?_)
                        · refine lv_iconst (v := (0 : Int32)) hx hb dX1_join_147 (by decide) ?_
                          refine lv_goto (tgt := 181) hx hb dX1_join_148 (by decide) ?_
                          refine va_zast hx hb hK hP hD hS 3 1 rfl rfl (vp_in_nI (by omega) (by omega)) dX1_join_181 (fun H locs hP hD hS => ?_)
                          have hP : va_P D vwCl (mW cI cZ h b1 b2 b3 u d (upd (kl_joinT tr qn op q.toNatClampNeg r.toNatClampNeg n) (nI (4096 * qn + n)).toNatClampNeg (vp_nar .boolean (0 : Int32))) (nI fn) (nI qn) sd (0 : Int32)) H := hP
                          have hD : va_D _ (mW cI cZ h b1 b2 b3 u d (upd (kl_joinT tr qn op q.toNatClampNeg r.toNatClampNeg n) (nI (4096 * qn + n)).toNatClampNeg (vp_nar .boolean (0 : Int32))) (nI fn) (nI qn) sd (0 : Int32)) := hD
                          have hP := Eq.mp (congrArg (fun z9 => va_P D vwCl (mW cI cZ h b1 b2 b3 u d z9 (nI fn) (nI qn) sd (0 : Int32)) H) (show upd (kl_joinT tr qn op q.toNatClampNeg r.toNatClampNeg n) (nI (4096 * qn + n)).toNatClampNeg (vp_nar .boolean (0 : Int32)) = upd (kl_joinT tr qn op q.toNatClampNeg r.toNatClampNeg n) (4096 * qn + n) (0 : Int32) from (by rw [nI_clamp (by omega), oo_vz0]))) hP
                          have hP : va_P D vwCl (mW cI cZ h b1 b2 b3 u d (upd (kl_joinT tr qn op q.toNatClampNeg r.toNatClampNeg n) (4096 * qn + n) (0 : Int32)) (nI fn) (nI qn) sd (0 : Int32)) H := hP
                          have hD : va_D _ (mW cI cZ h b1 b2 b3 u d (upd (kl_joinT tr qn op q.toNatClampNeg r.toNatClampNeg n) (4096 * qn + n) (0 : Int32)) (nI fn) (nI qn) sd (0 : Int32)) := oo_Dre hD (oo_fc (oo_fc (oo_fc (oo_fc rfl))))
                          refine lv_iinc (v := nI (n + 1)) (lv' := [(4, .int (nI (n + 1))), (6, .int (0 : Int32)), (5, .int ((kl_joinT tr qn op q.toNatClampNeg r.toNatClampNeg n) (4096 * q.toNatClampNeg + n))), (0, .ref h), (1, .int op), (2, .int q), (3, .int r)]) hx hb dX1_join_182 hl (k := 6) rfl (oo_inc n 1) (by decide) rfl (fun ls hl => ?_)
                          refine lv_goto (tgt := 52) hx hb dX1_join_185 (by decide) ?_
                          have hl : lv_has ls 7 [(0, .ref h), (1, .int op), (2, .int q), (3, .int r), (4, .int (nI (n + 1)))] := lv_sub hl [3, 4, 5, 6, 0] rfl
                          have hP := Eq.mp (congrArg (fun z9 => va_P D vwCl (mW cI cZ h b1 b2 b3 u d z9 (nI fn) (nI qn) sd (0 : Int32)) H) (show upd (kl_joinT tr qn op q.toNatClampNeg r.toNatClampNeg n) (4096 * qn + n) (0 : Int32) = kl_joinT tr qn op q.toNatClampNeg r.toNatClampNeg (n + 1) from (by simp only [kl_joinT, kl_jv]; rw [if_pos c_71, if_neg c_107, if_pos c_130, if_pos c_135, if_pos c_140]))) hP
                          have hP : va_P D vwCl (mW cI cZ h b1 b2 b3 u d (kl_joinT tr qn op q.toNatClampNeg r.toNatClampNeg (n + 1)) (nI fn) (nI qn) sd (0 : Int32)) H := hP
                          have hD : va_D _ (mW cI cZ h b1 b2 b3 u d (kl_joinT tr qn op q.toNatClampNeg r.toNatClampNeg (n + 1)) (nI fn) (nI qn) sd (0 : Int32)) := oo_Dre hD (oo_fc (oo_fc (oo_fc (oo_fc rfl))))
                          exact ihn _ _ _ ⟨hP, hD, hS, hl⟩
                        · refine lv_iconst (v := (1 : Int32)) hx hb dX1_join_143 (by decide) ?_
                          refine lv_goto (tgt := 181) hx hb dX1_join_144 (by decide) ?_
                          refine va_zast hx hb hK hP hD hS 3 1 rfl rfl (vp_in_nI (by omega) (by omega)) dX1_join_181 (fun H locs hP hD hS => ?_)
                          have hP : va_P D vwCl (mW cI cZ h b1 b2 b3 u d (upd (kl_joinT tr qn op q.toNatClampNeg r.toNatClampNeg n) (nI (4096 * qn + n)).toNatClampNeg (vp_nar .boolean (1 : Int32))) (nI fn) (nI qn) sd (0 : Int32)) H := hP
                          have hD : va_D _ (mW cI cZ h b1 b2 b3 u d (upd (kl_joinT tr qn op q.toNatClampNeg r.toNatClampNeg n) (nI (4096 * qn + n)).toNatClampNeg (vp_nar .boolean (1 : Int32))) (nI fn) (nI qn) sd (0 : Int32)) := hD
                          have hP := Eq.mp (congrArg (fun z9 => va_P D vwCl (mW cI cZ h b1 b2 b3 u d z9 (nI fn) (nI qn) sd (0 : Int32)) H) (show upd (kl_joinT tr qn op q.toNatClampNeg r.toNatClampNeg n) (nI (4096 * qn + n)).toNatClampNeg (vp_nar .boolean (1 : Int32)) = upd (kl_joinT tr qn op q.toNatClampNeg r.toNatClampNeg n) (4096 * qn + n) (1 : Int32) from (by rw [nI_clamp (by omega), oo_vz1]))) hP
                          have hP : va_P D vwCl (mW cI cZ h b1 b2 b3 u d (upd (kl_joinT tr qn op q.toNatClampNeg r.toNatClampNeg n) (4096 * qn + n) (1 : Int32)) (nI fn) (nI qn) sd (0 : Int32)) H := hP
                          have hD : va_D _ (mW cI cZ h b1 b2 b3 u d (upd (kl_joinT tr qn op q.toNatClampNeg r.toNatClampNeg n) (4096 * qn + n) (1 : Int32)) (nI fn) (nI qn) sd (0 : Int32)) := oo_Dre hD (oo_fc (oo_fc (oo_fc (oo_fc rfl))))
                          refine lv_iinc (v := nI (n + 1)) (lv' := [(4, .int (nI (n + 1))), (6, .int (0 : Int32)), (5, .int ((kl_joinT tr qn op q.toNatClampNeg r.toNatClampNeg n) (4096 * q.toNatClampNeg + n))), (0, .ref h), (1, .int op), (2, .int q), (3, .int r)]) hx hb dX1_join_182 hl (k := 6) rfl (oo_inc n 1) (by decide) rfl (fun ls hl => ?_)
                          refine lv_goto (tgt := 52) hx hb dX1_join_185 (by decide) ?_
                          have hl : lv_has ls 7 [(0, .ref h), (1, .int op), (2, .int q), (3, .int r), (4, .int (nI (n + 1)))] := lv_sub hl [3, 4, 5, 6, 0] rfl
                          have hP := Eq.mp (congrArg (fun z9 => va_P D vwCl (mW cI cZ h b1 b2 b3 u d z9 (nI fn) (nI qn) sd (0 : Int32)) H) (show upd (kl_joinT tr qn op q.toNatClampNeg r.toNatClampNeg n) (4096 * qn + n) (1 : Int32) = kl_joinT tr qn op q.toNatClampNeg r.toNatClampNeg (n + 1) from (by simp only [kl_joinT, kl_jv]; rw [if_pos c_71, if_neg c_107, if_pos c_130, if_pos c_135, if_neg c_140]))) hP
                          have hP : va_P D vwCl (mW cI cZ h b1 b2 b3 u d (kl_joinT tr qn op q.toNatClampNeg r.toNatClampNeg (n + 1)) (nI fn) (nI qn) sd (0 : Int32)) H := hP
                          have hD : va_D _ (mW cI cZ h b1 b2 b3 u d (kl_joinT tr qn op q.toNatClampNeg r.toNatClampNeg (n + 1)) (nI fn) (nI qn) sd (0 : Int32)) := oo_Dre hD (oo_fc (oo_fc (oo_fc (oo_fc rfl))))
                          exact ihn _ _ _ ⟨hP, hD, hS, hl⟩
                  · refine lv_iload hx hb dX1_join_110 (lv_at hl 1 rfl) ?_
                    refine lv_if_eq (tgt := 124) hx hb dX1_join_112 (by decide) (fun c_112 => ?_) (fun c_112 => ?_)
                    · refine lv_iconst (v := (0 : Int32)) hx hb dX1_join_124 (by decide) ?_
                      refine lv_goto (tgt := 181) hx hb dX1_join_125 (by decide) ?_
                      refine va_zast hx hb hK hP hD hS 3 1 rfl rfl (vp_in_nI (by omega) (by omega)) dX1_join_181 (fun H locs hP hD hS => ?_)
                      have hP : va_P D vwCl (mW cI cZ h b1 b2 b3 u d (upd (kl_joinT tr qn op q.toNatClampNeg r.toNatClampNeg n) (nI (4096 * qn + n)).toNatClampNeg (vp_nar .boolean (0 : Int32))) (nI fn) (nI qn) sd (0 : Int32)) H := hP
                      have hD : va_D _ (mW cI cZ h b1 b2 b3 u d (upd (kl_joinT tr qn op q.toNatClampNeg r.toNatClampNeg n) (nI (4096 * qn + n)).toNatClampNeg (vp_nar .boolean (0 : Int32))) (nI fn) (nI qn) sd (0 : Int32)) := hD
                      have hP := Eq.mp (congrArg (fun z9 => va_P D vwCl (mW cI cZ h b1 b2 b3 u d z9 (nI fn) (nI qn) sd (0 : Int32)) H) (show upd (kl_joinT tr qn op q.toNatClampNeg r.toNatClampNeg n) (nI (4096 * qn + n)).toNatClampNeg (vp_nar .boolean (0 : Int32)) = upd (kl_joinT tr qn op q.toNatClampNeg r.toNatClampNeg n) (4096 * qn + n) (0 : Int32) from (by rw [nI_clamp (by omega), oo_vz0]))) hP
                      have hP : va_P D vwCl (mW cI cZ h b1 b2 b3 u d (upd (kl_joinT tr qn op q.toNatClampNeg r.toNatClampNeg n) (4096 * qn + n) (0 : Int32)) (nI fn) (nI qn) sd (0 : Int32)) H := hP
                      have hD : va_D _ (mW cI cZ h b1 b2 b3 u d (upd (kl_joinT tr qn op q.toNatClampNeg r.toNatClampNeg n) (4096 * qn + n) (0 : Int32)) (nI fn) (nI qn) sd (0 : Int32)) := oo_Dre hD (oo_fc (oo_fc (oo_fc (oo_fc rfl))))
                      refine lv_iinc (v := nI (n + 1)) (lv' := [(4, .int (nI (n + 1))), (6, .int (0 : Int32)), (5, .int ((kl_joinT tr qn op q.toNatClampNeg r.toNatClampNeg n) (4096 * q.toNatClampNeg + n))), (0, .ref h), (1, .int op), (2, .int q), (3, .int r)]) hx hb dX1_join_182 hl (k := 6) rfl (oo_inc n 1) (by decide) rfl (fun ls hl => ?_)
                      refine lv_goto (tgt := 52) hx hb dX1_join_185 (by decide) ?_
                      have hl : lv_has ls 7 [(0, .ref h), (1, .int op), (2, .int q), (3, .int r), (4, .int (nI (n + 1)))] := lv_sub hl [3, 4, 5, 6, 0] rfl
                      have hP := Eq.mp (congrArg (fun z9 => va_P D vwCl (mW cI cZ h b1 b2 b3 u d z9 (nI fn) (nI qn) sd (0 : Int32)) H) (show upd (kl_joinT tr qn op q.toNatClampNeg r.toNatClampNeg n) (4096 * qn + n) (0 : Int32) = kl_joinT tr qn op q.toNatClampNeg r.toNatClampNeg (n + 1) from (by simp only [kl_joinT, kl_jv]; rw [if_pos c_71, if_pos c_107, if_pos c_112]))) hP
                      have hP : va_P D vwCl (mW cI cZ h b1 b2 b3 u d (kl_joinT tr qn op q.toNatClampNeg r.toNatClampNeg (n + 1)) (nI fn) (nI qn) sd (0 : Int32)) H := hP
                      have hD : va_D _ (mW cI cZ h b1 b2 b3 u d (kl_joinT tr qn op q.toNatClampNeg r.toNatClampNeg (n + 1)) (nI fn) (nI qn) sd (0 : Int32)) := oo_Dre hD (oo_fc (oo_fc (oo_fc (oo_fc rfl))))
                      exact ihn _ _ _ ⟨hP, hD, hS, hl⟩
                    · refine lv_iload hx hb dX1_join_115 (lv_at hl 0 rfl) ?_
                      refine lv_if_eq (tgt := 124) hx hb dX1_join_117 (by decide) (fun c_117 => ?_) (fun c_117 => ?_)
                      · refine lv_iconst (v := (0 : Int32)) hx hb dX1_join_124 (by decide) ?_
                        refine lv_goto (tgt := 181) hx hb dX1_join_125 (by decide) ?_
                        refine va_zast hx hb hK hP hD hS 3 1 rfl rfl (vp_in_nI (by omega) (by omega)) dX1_join_181 (fun H locs hP hD hS => ?_)
                        have hP : va_P D vwCl (mW cI cZ h b1 b2 b3 u d (upd (kl_joinT tr qn op q.toNatClampNeg r.toNatClampNeg n) (nI (4096 * qn + n)).toNatClampNeg (vp_nar .boolean (0 : Int32))) (nI fn) (nI qn) sd (0 : Int32)) H := hP
                        have hD : va_D _ (mW cI cZ h b1 b2 b3 u d (upd (kl_joinT tr qn op q.toNatClampNeg r.toNatClampNeg n) (nI (4096 * qn + n)).toNatClampNeg (vp_nar .boolean (0 : Int32))) (nI fn) (nI qn) sd (0 : Int32)) := hD
                        have hP := Eq.mp (congrArg (fun z9 => va_P D vwCl (mW cI cZ h b1 b2 b3 u d z9 (nI fn) (nI qn) sd (0 : Int32)) H) (show upd (kl_joinT tr qn op q.toNatClampNeg r.toNatClampNeg n) (nI (4096 * qn + n)).toNatClampNeg (vp_nar .boolean (0 : Int32)) = upd (kl_joinT tr qn op q.toNatClampNeg r.toNatClampNeg n) (4096 * qn + n) (0 : Int32) from (by rw [nI_clamp (by omega), oo_vz0]))) hP
                        have hP : va_P D vwCl (mW cI cZ h b1 b2 b3 u d (upd (kl_joinT tr qn op q.toNatClampNeg r.toNatClampNeg n) (4096 * qn + n) (0 : Int32)) (nI fn) (nI qn) sd (0 : Int32)) H := hP
                        have hD : va_D _ (mW cI cZ h b1 b2 b3 u d (upd (kl_joinT tr qn op q.toNatClampNeg r.toNatClampNeg n) (4096 * qn + n) (0 : Int32)) (nI fn) (nI qn) sd (0 : Int32)) := oo_Dre hD (oo_fc (oo_fc (oo_fc (oo_fc rfl))))
                        refine lv_iinc (v := nI (n + 1)) (lv' := [(4, .int (nI (n + 1))), (6, .int (0 : Int32)), (5, .int ((kl_joinT tr qn op q.toNatClampNeg r.toNatClampNeg n) (4096 * q.toNatClampNeg + n))), (0, .ref h), (1, .int op), (2, .int q), (3, .int r)]) hx hb dX1_join_182 hl (k := 6) rfl (oo_inc n 1) (by decide) rfl (fun ls hl => ?_)
                        refine lv_goto (tgt := 52) hx hb dX1_join_185 (by decide) ?_
                        have hl : lv_has ls 7 [(0, .ref h), (1, .int op), (2, .int q), (3, .int r), (4, .int (nI (n + 1)))] := lv_sub hl [3, 4, 5, 6, 0] rfl
                        have hP := Eq.mp (congrArg (fun z9 => va_P D vwCl (mW cI cZ h b1 b2 b3 u d z9 (nI fn) (nI qn) sd (0 : Int32)) H) (show upd (kl_joinT tr qn op q.toNatClampNeg r.toNatClampNeg n) (4096 * qn + n) (0 : Int32) = kl_joinT tr qn op q.toNatClampNeg r.toNatClampNeg (n + 1) from (by simp only [kl_joinT, kl_jv]; rw [if_pos c_71, if_pos c_107, if_neg c_112, if_pos c_117]))) hP
                        have hP : va_P D vwCl (mW cI cZ h b1 b2 b3 u d (kl_joinT tr qn op q.toNatClampNeg r.toNatClampNeg (n + 1)) (nI fn) (nI qn) sd (0 : Int32)) H := hP
                        have hD : va_D _ (mW cI cZ h b1 b2 b3 u d (kl_joinT tr qn op q.toNatClampNeg r.toNatClampNeg (n + 1)) (nI fn) (nI qn) sd (0 : Int32)) := oo_Dre hD (oo_fc (oo_fc (oo_fc (oo_fc rfl))))
                        exact ihn _ _ _ ⟨hP, hD, hS, hl⟩
                      · refine lv_iconst (v := (1 : Int32)) hx hb dX1_join_120 (by decide) ?_
                        refine lv_goto (tgt := 181) hx hb dX1_join_121 (by decide) ?_
                        refine va_zast hx hb hK hP hD hS 3 1 rfl rfl (vp_in_nI (by omega) (by omega)) dX1_join_181 (fun H locs hP hD hS => ?_)
                        have hP : va_P D vwCl (mW cI cZ h b1 b2 b3 u d (upd (kl_joinT tr qn op q.toNatClampNeg r.toNatClampNeg n) (nI (4096 * qn + n)).toNatClampNeg (vp_nar .boolean (1 : Int32))) (nI fn) (nI qn) sd (0 : Int32)) H := hP
                        have hD : va_D _ (mW cI cZ h b1 b2 b3 u d (upd (kl_joinT tr qn op q.toNatClampNeg r.toNatClampNeg n) (nI (4096 * qn + n)).toNatClampNeg (vp_nar .boolean (1 : Int32))) (nI fn) (nI qn) sd (0 : Int32)) := hD
                        have hP := Eq.mp (congrArg (fun z9 => va_P D vwCl (mW cI cZ h b1 b2 b3 u d z9 (nI fn) (nI qn) sd (0 : Int32)) H) (show upd (kl_joinT tr qn op q.toNatClampNeg r.toNatClampNeg n) (nI (4096 * qn + n)).toNatClampNeg (vp_nar .boolean (1 : Int32)) = upd (kl_joinT tr qn op q.toNatClampNeg r.toNatClampNeg n) (4096 * qn + n) (1 : Int32) from (by rw [nI_clamp (by omega), oo_vz1]))) hP
                        have hP : va_P D vwCl (mW cI cZ h b1 b2 b3 u d (upd (kl_joinT tr qn op q.toNatClampNeg r.toNatClampNeg n) (4096 * qn + n) (1 : Int32)) (nI fn) (nI qn) sd (0 : Int32)) H := hP
                        have hD : va_D _ (mW cI cZ h b1 b2 b3 u d (upd (kl_joinT tr qn op q.toNatClampNeg r.toNatClampNeg n) (4096 * qn + n) (1 : Int32)) (nI fn) (nI qn) sd (0 : Int32)) := oo_Dre hD (oo_fc (oo_fc (oo_fc (oo_fc rfl))))
                        refine lv_iinc (v := nI (n + 1)) (lv' := [(4, .int (nI (n + 1))), (6, .int (0 : Int32)), (5, .int ((kl_joinT tr qn op q.toNatClampNeg r.toNatClampNeg n) (4096 * q.toNatClampNeg + n))), (0, .ref h), (1, .int op), (2, .int q), (3, .int r)]) hx hb dX1_join_182 hl (k := 6) rfl (oo_inc n 1) (by decide) rfl (fun ls hl => ?_)
                        refine lv_goto (tgt := 52) hx hb dX1_join_185 (by decide) ?_
                        have hl : lv_has ls 7 [(0, .ref h), (1, .int op), (2, .int q), (3, .int r), (4, .int (nI (n + 1)))] := lv_sub hl [3, 4, 5, 6, 0] rfl
                        have hP := Eq.mp (congrArg (fun z9 => va_P D vwCl (mW cI cZ h b1 b2 b3 u d z9 (nI fn) (nI qn) sd (0 : Int32)) H) (show upd (kl_joinT tr qn op q.toNatClampNeg r.toNatClampNeg n) (4096 * qn + n) (1 : Int32) = kl_joinT tr qn op q.toNatClampNeg r.toNatClampNeg (n + 1) from (by simp only [kl_joinT, kl_jv]; rw [if_pos c_71, if_pos c_107, if_neg c_112, if_neg c_117]))) hP
                        have hP : va_P D vwCl (mW cI cZ h b1 b2 b3 u d (kl_joinT tr qn op q.toNatClampNeg r.toNatClampNeg (n + 1)) (nI fn) (nI qn) sd (0 : Int32)) H := hP
                        have hD : va_D _ (mW cI cZ h b1 b2 b3 u d (kl_joinT tr qn op q.toNatClampNeg r.toNatClampNeg (n + 1)) (nI fn) (nI qn) sd (0 : Int32)) := oo_Dre hD (oo_fc (oo_fc (oo_fc (oo_fc rfl))))
                        exact ihn _ _ _ ⟨hP, hD, hS, hl⟩
                · refine lv_aload_n hx hb dX1_join_74 rfl (lv_at hl 1 rfl) ?_
                  refine lv_iload_n hx hb dX1_join_75 rfl (lv_at hl 4 rfl) ?_
                  refine oo_topI (y := nI r.toNatClampNeg) (oo_isQ hqn (hr9 c_71)).1 ?_
                  refine lv_iload hx hb dX1_join_76 (lv_at hl 5 rfl) ?_
                  refine ro_calli (va_runV (As := [.int (nI r.toNatClampNeg), .int (nI n)]) (rest := []) ⟨hx, hb, hml, hown, hts⟩ (kX1_isTrue l D cI cZ h b1 b2 b3 u d (kl_joinT tr qn op q.toNatClampNeg r.toNatClampNeg n) fn qn sd (0 : Int32) r.toNatClampNeg n (by have := (oo_isQ hqn (hr9 c_71)).2; omega) (by omega) (kl_joinT_01 h01 n)) (cwV 2 hts gX1_join_X1_isTrue rfl rfl rfl ok_X1_isTrue ⟨Nat.le_of_ble_eq_true rfl, Nat.le_of_ble_eq_true rfl⟩) ⟨oo_blind, va_recv hK hP (ci := 1) (q0 := 0) rfl rfl, oo_ps hP hK [0, 1, 2, 3] rfl [0, 1] rfl⟩ rfl rfl hl.1 rfl (lv_room (Nat.le_of_ble_eq_true rfl)) dX1_join_78 ⟨Nat.le_of_ble_eq_true rfl, Nat.le_of_ble_eq_true rfl⟩) hP hS (fun H locs hP hS => ?_)
                  refine lv_if_eq (tgt := 88) hx hb dX1_join_81 (by decide) (fun c_81 => ?_) (fun c_81 => ?_)
                  · refine lv_iconst (v := (0 : Int32)) hx hb dX1_join_88 (by decide) ?_
                    refine lv_istore (lv' := [(6, .int (0 : Int32)), (5, .int ((kl_joinT tr qn op q.toNatClampNeg r.toNatClampNeg n) (4096 * q.toNatClampNeg + n))), (0, .ref h), (1, .int op), (2, .int q), (3, .int r), (4, .int (nI n))]) hx hb dX1_join_89 hl (by decide) rfl (fun ls hl => ?_)
                    refine lv_aload_n hx hb dX1_join_91 rfl (lv_at hl 2 rfl) ?_
                    refine va_get (D := D) (ci := 1) (v := .ref b3) (C := RX1) (T := TX1) (N := 7) hx hb hts hin hown hK hP 0 rfl rfl 3 (by decide) (hts (.fieldLink RX1 17 "OddsSamplingModel" "truths" "[Z") (by decide +kernel)) (fun _ h9 => h9) rfl dX1_join_92 ?_
                    refine lv_sipush (v := nI 4096) hx hb dX1_join_95 (by decide) ?_
                    refine lv_aload_n hx hb dX1_join_98 rfl (lv_at hl 2 rfl) ?_
                    refine va_get (D := D) (ci := 1) (v := .int (nI qn)) (C := RX1) (T := TX1) (N := 7) hx hb hts hin hown hK hP 0 rfl rfl 4 (by decide) (hts (.fieldLink RX1 25 "OddsSamplingModel" "questions" "I") (by decide +kernel)) (fun _ h9 => h9) rfl dX1_join_99 ?_
                    refine lv_imul hx hb dX1_join_102 ?_
                    refine lv_iload hx hb dX1_join_103 (lv_at hl 6 rfl) ?_
                    refine lv_iadd hx hb dX1_join_105 ?_
                    refine oo_topI (y := nI (4096 * qn + n)) (by rw [pk_mul, nI_add]) ?_
                    refine lv_iload_n hx hb dX1_join_106 rfl (lv_at hl 3 rfl) ?_
                    refine lv_if_ne (tgt := 128) hx hb dX1_join_107 (by decide) (fun c_107 => ?_) (fun c_107 => ?_)
                    · refine lv_iload_n hx hb dX1_join_128 rfl (lv_at hl 3 rfl) ?_
                      refine lv_iconst (v := (1 : Int32)) hx hb dX1_join_129 (by decide) ?_
                      refine lv_icmp_ne (tgt := 151) hx hb dX1_join_130 (by decide) (fun c_130 => ?_) (fun c_130 => ?_)
                      · refine lv_iload_n hx hb dX1_join_151 rfl (lv_at hl 3 rfl) ?_
                        refine lv_iconst (v := (2 : Int32)) hx hb dX1_join_152 (by decide) ?_
                        refine lv_icmp_ne (tgt := 171) hx hb dX1_join_153 (by decide) (fun c_153 => ?_) (fun c_153 => ?_)
                        · refine lv_iload hx hb dX1_join_171 (lv_at hl 1 rfl) ?_
                          refine lv_if_ne (tgt := 180) hx hb dX1_join_173 (by decide) (fun c_173 => ?_) (fun c_173 => ?_)
                          · refine lv_iconst (v := (0 : Int32)) hx hb dX1_join_180 (by decide) ?_
                            refine va_zast hx hb hK hP hD hS 3 1 rfl rfl (vp_in_nI (by omega) (by omega)) dX1_join_181 (fun H locs hP hD hS => ?_)
                            have hP : va_P D vwCl (mW cI cZ h b1 b2 b3 u d (upd (kl_joinT tr qn op q.toNatClampNeg r.toNatClampNeg n) (nI (4096 * qn + n)).toNatClampNeg (vp_nar .boolean (0 : Int32))) (nI fn) (nI qn) sd (0 : Int32)) H := hP
                            have hD : va_D _ (mW cI cZ h b1 b2 b3 u d (upd (kl_joinT tr qn op q.toNatClampNeg r.toNatClampNeg n) (nI (4096 * qn + n)).toNatClampNeg (vp_nar .boolean (0 : Int32))) (nI fn) (nI qn) sd (0 : Int32)) := hD
                            have hP := Eq.mp (congrArg (fun z9 => va_P D vwCl (mW cI cZ h b1 b2 b3 u d z9 (nI fn) (nI qn) sd (0 : Int32)) H) (show upd (kl_joinT tr qn op q.toNatClampNeg r.toNatClampNeg n) (nI (4096 * qn + n)).toNatClampNeg (vp_nar .boolean (0 : Int32)) = upd (kl_joinT tr qn op q.toNatClampNeg r.toNatClampNeg n) (4096 * qn + n) (0 : Int32) from (by rw [nI_clamp (by omega), oo_vz0]))) hP
                            have hP : va_P D vwCl (mW cI cZ h b1 b2 b3 u d (upd (kl_joinT tr qn op q.toNatClampNeg r.toNatClampNeg n) (4096 * qn + n) (0 : Int32)) (nI fn) (nI qn) sd (0 : Int32)) H := hP
                            have hD : va_D _ (mW cI cZ h b1 b2 b3 u d (upd (kl_joinT tr qn op q.toNatClampNeg r.toNatClampNeg n) (4096 * qn + n) (0 : Int32)) (nI fn) (nI qn) sd (0 : Int32)) := oo_Dre hD (oo_fc (oo_fc (oo_fc (oo_fc rfl))))
                            refine lv_iinc (v := nI (n + 1)) (lv' := [(4, .int (nI (n + 1))), (6, .int (0 : Int32)), (5, .int ((kl_joinT tr qn op q.toNatClampNeg r.toNatClampNeg n) (4096 * q.toNatClampNeg + n))), (0, .ref h), (1, .int op), (2, .int q), (3, .int r)]) hx hb dX1_join_182 hl (k := 6) rfl (oo_inc n 1) (by decide) rfl (fun ls hl => ?_)
                            refine lv_goto (tgt := 52) hx hb dX1_join_185 (by decide) ?_
                            have hl : lv_has ls 7 [(0, .ref h), (1, .int op), (2, .int q), (3, .int r), (4, .int (nI (n + 1)))] := lv_sub hl [3, 4, 5, 6, 0] rfl
                            have hP := Eq.mp (congrArg (fun z9 => va_P D vwCl (mW cI cZ h b1 b2 b3 u d z9 (nI fn) (nI qn) sd (0 : Int32)) H) (show upd (kl_joinT tr qn op q.toNatClampNeg r.toNatClampNeg n) (4096 * qn + n) (0 : Int32) = kl_joinT tr qn op q.toNatClampNeg r.toNatClampNeg (n + 1) from (by simp only [kl_joinT, kl_jv]; rw [if_neg c_71, if_pos c_81, if_neg c_107, if_neg c_130, if_neg c_153, if_neg c_173]))) hP
                            have hP : va_P D vwCl (mW cI cZ h b1 b2 b3 u d (kl_joinT tr qn op q.toNatClampNeg r.toNatClampNeg (n + 1)) (nI fn) (nI qn) sd (0 : Int32)) H := hP
                            have hD : va_D _ (mW cI cZ h b1 b2 b3 u d (kl_joinT tr qn op q.toNatClampNeg r.toNatClampNeg (n + 1)) (nI fn) (nI qn) sd (0 : Int32)) := oo_Dre hD (oo_fc (oo_fc (oo_fc (oo_fc rfl))))
                            exact ihn _ _ _ ⟨hP, hD, hS, hl⟩
                          · refine lv_iconst (v := (1 : Int32)) hx hb dX1_join_176 (by decide) ?_
                            refine lv_goto (tgt := 181) hx hb dX1_join_177 (by decide) ?_
                            refine va_zast hx hb hK hP hD hS 3 1 rfl rfl (vp_in_nI (by omega) (by omega)) dX1_join_181 (fun H locs hP hD hS => ?_)
                            have hP : va_P D vwCl (mW cI cZ h b1 b2 b3 u d (upd (kl_joinT tr qn op q.toNatClampNeg r.toNatClampNeg n) (nI (4096 * qn + n)).toNatClampNeg (vp_nar .boolean (1 : Int32))) (nI fn) (nI qn) sd (0 : Int32)) H := hP
                            have hD : va_D _ (mW cI cZ h b1 b2 b3 u d (upd (kl_joinT tr qn op q.toNatClampNeg r.toNatClampNeg n) (nI (4096 * qn + n)).toNatClampNeg (vp_nar .boolean (1 : Int32))) (nI fn) (nI qn) sd (0 : Int32)) := hD
                            have hP := Eq.mp (congrArg (fun z9 => va_P D vwCl (mW cI cZ h b1 b2 b3 u d z9 (nI fn) (nI qn) sd (0 : Int32)) H) (show upd (kl_joinT tr qn op q.toNatClampNeg r.toNatClampNeg n) (nI (4096 * qn + n)).toNatClampNeg (vp_nar .boolean (1 : Int32)) = upd (kl_joinT tr qn op q.toNatClampNeg r.toNatClampNeg n) (4096 * qn + n) (1 : Int32) from (by rw [nI_clamp (by omega), oo_vz1]))) hP
                            have hP : va_P D vwCl (mW cI cZ h b1 b2 b3 u d (upd (kl_joinT tr qn op q.toNatClampNeg r.toNatClampNeg n) (4096 * qn + n) (1 : Int32)) (nI fn) (nI qn) sd (0 : Int32)) H := hP
                            have hD : va_D _ (mW cI cZ h b1 b2 b3 u d (upd (kl_joinT tr qn op q.toNatClampNeg r.toNatClampNeg n) (4096 * qn + n) (1 : Int32)) (nI fn) (nI qn) sd (0 : Int32)) := oo_Dre hD (oo_fc (oo_fc (oo_fc (oo_fc rfl))))
                            refine lv_iinc (v := nI (n + 1)) (lv' := [(4, .int (nI (n + 1))), (6, .int (0 : Int32)), (5, .int ((kl_joinT tr qn op q.toNatClampNeg r.toNatClampNeg n) (4096 * q.toNatClampNeg + n))), (0, .ref h), (1, .int op), (2, .int q), (3, .int r)]) hx hb dX1_join_182 hl (k := 6) rfl (oo_inc n 1) (by decide) rfl (fun ls hl => ?_)
                            refine lv_goto (tgt := 52) hx hb dX1_join_185 (by decide) ?_
                            have hl : lv_has ls 7 [(0, .ref h), (1, .int op), (2, .int q), (3, .int r), (4, .int (nI (n + 1)))] := lv_sub hl [3, 4, 5, 6, 0] rfl
                            have hP := Eq.mp (congrArg (fun z9 => va_P D vwCl (mW cI cZ h b1 b2 b3 u d z9 (nI fn) (nI qn) sd (0 : Int32)) H) (show upd (kl_joinT tr qn op q.toNatClampNeg r.toNatClampNeg n) (4096 * qn + n) (1 : Int32) = kl_joinT tr qn op q.toNatClampNeg r.toNatClampNeg (n + 1) from (by simp only [kl_joinT, kl_jv]; rw [if_neg c_71, if_pos c_81, if_neg c_107, if_neg c_130, if_neg c_153, if_pos c_173]))) hP
                            have hP : va_P D vwCl (mW cI cZ h b1 b2 b3 u d (kl_joinT tr qn op q.toNatClampNeg r.toNatClampNeg (n + 1)) (nI fn) (nI qn) sd (0 : Int32)) H := hP
                            have hD : va_D _ (mW cI cZ h b1 b2 b3 u d (kl_joinT tr qn op q.toNatClampNeg r.toNatClampNeg (n + 1)) (nI fn) (nI qn) sd (0 : Int32)) := oo_Dre hD (oo_fc (oo_fc (oo_fc (oo_fc rfl))))
                            exact ihn _ _ _ ⟨hP, hD, hS, hl⟩
                        · refine lv_iload hx hb dX1_join_156 (lv_at hl 1 rfl) ?_
                          refine lv_iload hx hb dX1_join_158 (lv_at hl 0 rfl) ?_
                          refine lv_icmp_eq (tgt := 167) hx hb dX1_join_160 (by decide) (fun c_160 => ?_) (fun c_160 => ?_)
                          · refine lv_iconst (v := (0 : Int32)) hx hb dX1_join_167 (by decide) ?_
                            refine lv_goto (tgt := 181) hx hb dX1_join_168 (by decide) ?_
                            refine va_zast hx hb hK hP hD hS 3 1 rfl rfl (vp_in_nI (by omega) (by omega)) dX1_join_181 (fun H locs hP hD hS => ?_)
                            have hP : va_P D vwCl (mW cI cZ h b1 b2 b3 u d (upd (kl_joinT tr qn op q.toNatClampNeg r.toNatClampNeg n) (nI (4096 * qn + n)).toNatClampNeg (vp_nar .boolean (0 : Int32))) (nI fn) (nI qn) sd (0 : Int32)) H := hP
                            have hD : va_D _ (mW cI cZ h b1 b2 b3 u d (upd (kl_joinT tr qn op q.toNatClampNeg r.toNatClampNeg n) (nI (4096 * qn + n)).toNatClampNeg (vp_nar .boolean (0 : Int32))) (nI fn) (nI qn) sd (0 : Int32)) := hD
                            have hP := Eq.mp (congrArg (fun z9 => va_P D vwCl (mW cI cZ h b1 b2 b3 u d z9 (nI fn) (nI qn) sd (0 : Int32)) H) (show upd (kl_joinT tr qn op q.toNatClampNeg r.toNatClampNeg n) (nI (4096 * qn + n)).toNatClampNeg (vp_nar .boolean (0 : Int32)) = upd (kl_joinT tr qn op q.toNatClampNeg r.toNatClampNeg n) (4096 * qn + n) (0 : Int32) from (by rw [nI_clamp (by omega), oo_vz0]))) hP
                            have hP : va_P D vwCl (mW cI cZ h b1 b2 b3 u d (upd (kl_joinT tr qn op q.toNatClampNeg r.toNatClampNeg n) (4096 * qn + n) (0 : Int32)) (nI fn) (nI qn) sd (0 : Int32)) H := hP
                            have hD : va_D _ (mW cI cZ h b1 b2 b3 u d (upd (kl_joinT tr qn op q.toNatClampNeg r.toNatClampNeg n) (4096 * qn + n) (0 : Int32)) (nI fn) (nI qn) sd (0 : Int32)) := oo_Dre hD (oo_fc (oo_fc (oo_fc (oo_fc rfl))))
                            refine lv_iinc (v := nI (n + 1)) (lv' := [(4, .int (nI (n + 1))), (6, .int (0 : Int32)), (5, .int ((kl_joinT tr qn op q.toNatClampNeg r.toNatClampNeg n) (4096 * q.toNatClampNeg + n))), (0, .ref h), (1, .int op), (2, .int q), (3, .int r)]) hx hb dX1_join_182 hl (k := 6) rfl (oo_inc n 1) (by decide) rfl (fun ls hl => ?_)
                            refine lv_goto (tgt := 52) hx hb dX1_join_185 (by decide) ?_
                            have hl : lv_has ls 7 [(0, .ref h), (1, .int op), (2, .int q), (3, .int r), (4, .int (nI (n + 1)))] := lv_sub hl [3, 4, 5, 6, 0] rfl
                            have hP := Eq.mp (congrArg (fun z9 => va_P D vwCl (mW cI cZ h b1 b2 b3 u d z9 (nI fn) (nI qn) sd (0 : Int32)) H) (show upd (kl_joinT tr qn op q.toNatClampNeg r.toNatClampNeg n) (4096 * qn + n) (0 : Int32) = kl_joinT tr qn op q.toNatClampNeg r.toNatClampNeg (n + 1) from (by simp only [kl_joinT, kl_jv]; rw [if_neg c_71, if_pos c_81, if_neg c_107, if_neg c_130, if_pos c_153, if_pos c_160]))) hP
                            have hP : va_P D vwCl (mW cI cZ h b1 b2 b3 u d (kl_joinT tr qn op q.toNatClampNeg r.toNatClampNeg (n + 1)) (nI fn) (nI qn) sd (0 : Int32)) H := hP
                            have hD : va_D _ (mW cI cZ h b1 b2 b3 u d (kl_joinT tr qn op q.toNatClampNeg r.toNatClampNeg (n + 1)) (nI fn) (nI qn) sd (0 : Int32)) := oo_Dre hD (oo_fc (oo_fc (oo_fc (oo_fc rfl))))
                            exact ihn _ _ _ ⟨hP, hD, hS, hl⟩
                          · refine lv_iconst (v := (1 : Int32)) hx hb dX1_join_163 (by decide) ?_
                            refine lv_goto (tgt := 181) hx hb dX1_join_164 (by decide) ?_
                            refine va_zast hx hb hK hP hD hS 3 1 rfl rfl (vp_in_nI (by omega) (by omega)) dX1_join_181 (fun H locs hP hD hS => ?_)
                            have hP : va_P D vwCl (mW cI cZ h b1 b2 b3 u d (upd (kl_joinT tr qn op q.toNatClampNeg r.toNatClampNeg n) (nI (4096 * qn + n)).toNatClampNeg (vp_nar .boolean (1 : Int32))) (nI fn) (nI qn) sd (0 : Int32)) H := hP
                            have hD : va_D _ (mW cI cZ h b1 b2 b3 u d (upd (kl_joinT tr qn op q.toNatClampNeg r.toNatClampNeg n) (nI (4096 * qn + n)).toNatClampNeg (vp_nar .boolean (1 : Int32))) (nI fn) (nI qn) sd (0 : Int32)) := hD
                            have hP := Eq.mp (congrArg (fun z9 => va_P D vwCl (mW cI cZ h b1 b2 b3 u d z9 (nI fn) (nI qn) sd (0 : Int32)) H) (show upd (kl_joinT tr qn op q.toNatClampNeg r.toNatClampNeg n) (nI (4096 * qn + n)).toNatClampNeg (vp_nar .boolean (1 : Int32)) = upd (kl_joinT tr qn op q.toNatClampNeg r.toNatClampNeg n) (4096 * qn + n) (1 : Int32) from (by rw [nI_clamp (by omega), oo_vz1]))) hP
                            have hP : va_P D vwCl (mW cI cZ h b1 b2 b3 u d (upd (kl_joinT tr qn op q.toNatClampNeg r.toNatClampNeg n) (4096 * qn + n) (1 : Int32)) (nI fn) (nI qn) sd (0 : Int32)) H := hP
                            have hD : va_D _ (mW cI cZ h b1 b2 b3 u d (upd (kl_joinT tr qn op q.toNatClampNeg r.toNatClampNeg n) (4096 * qn + n) (1 : Int32)) (nI fn) (nI qn) sd (0 : Int32)) := oo_Dre hD (oo_fc (oo_fc (oo_fc (oo_fc rfl))))
                            refine lv_iinc (v := nI (n + 1)) (lv' := [(4, .int (nI (n + 1))), (6, .int (0 : Int32)), (5, .int ((kl_joinT tr qn op q.toNatClampNeg r.toNatClampNeg n) (4096 * q.toNatClampNeg + n))), (0, .ref h), (1, .int op), (2, .int q), (3, .int r)]) hx hb dX1_join_182 hl (k := 6) rfl (oo_inc n 1) (by decide) rfl (fun ls hl => ?_)
                            refine lv_goto (tgt := 52) hx hb dX1_join_185 (by decide) ?_
                            have hl : lv_has ls 7 [(0, .ref h), (1, .int op), (2, .int q), (3, .int r), (4, .int (nI (n + 1)))] := lv_sub hl [3, 4, 5, 6, 0] rfl
                            have hP := Eq.mp (congrArg (fun z9 => va_P D vwCl (mW cI cZ h b1 b2 b3 u d z9 (nI fn) (nI qn) sd (0 : Int32)) H) (show upd (kl_joinT tr qn op q.toNatClampNeg r.toNatClampNeg n) (4096 * qn + n) (1 : Int32) = kl_joinT tr qn op q.toNatClampNeg r.toNatClampNeg (n + 1) from (by simp only [kl_joinT, kl_jv]; rw [if_neg c_71, if_pos c_81, if_neg c_107, if_neg c_130, if_pos c_153, if_neg c_160]))) hP
                            have hP : va_P D vwCl (mW cI cZ h b1 b2 b3 u d (kl_joinT tr qn op q.toNatClampNeg r.toNatClampNeg (n + 1)) (nI fn) (nI qn) sd (0 : Int32)) H := hP
                            have hD : va_D _ (mW cI cZ h b1 b2 b3 u d (kl_joinT tr qn op q.toNatClampNeg r.toNatClampNeg (n + 1)) (nI fn) (nI qn) sd (0 : Int32)) := oo_Dre hD (oo_fc (oo_fc (oo_fc (oo_fc rfl))))
                            exact ihn _ _ _ ⟨hP, hD, hS, hl⟩
                      · refine lv_iload hx hb dX1_join_133 (lv_at hl 1 rfl) ?_
                        refine lv_if_ne (tgt := 143) hx hb dX1_join_135 (by decide) (fun c_135 => ?_) (fun c_135 => ?_)
                        · refine lv_iconst (v := (1 : Int32)) hx hb dX1_join_143 (by decide) ?_
                          refine lv_goto (tgt := 181) hx hb dX1_join_144 (by decide) ?_
                          refine va_zast hx hb hK hP hD hS 3 1 rfl rfl (vp_in_nI (by omega) (by omega)) dX1_join_181 (fun H locs hP hD hS => ?_)
                          have hP : va_P D vwCl (mW cI cZ h b1 b2 b3 u d (upd (kl_joinT tr qn op q.toNatClampNeg r.toNatClampNeg n) (nI (4096 * qn + n)).toNatClampNeg (vp_nar .boolean (1 : Int32))) (nI fn) (nI qn) sd (0 : Int32)) H := hP
                          have hD : va_D _ (mW cI cZ h b1 b2 b3 u d (upd (kl_joinT tr qn op q.toNatClampNeg r.toNatClampNeg n) (nI (4096 * qn + n)).toNatClampNeg (vp_nar .boolean (1 : Int32))) (nI fn) (nI qn) sd (0 : Int32)) := hD
                          have hP := Eq.mp (congrArg (fun z9 => va_P D vwCl (mW cI cZ h b1 b2 b3 u d z9 (nI fn) (nI qn) sd (0 : Int32)) H) (show upd (kl_joinT tr qn op q.toNatClampNeg r.toNatClampNeg n) (nI (4096 * qn + n)).toNatClampNeg (vp_nar .boolean (1 : Int32)) = upd (kl_joinT tr qn op q.toNatClampNeg r.toNatClampNeg n) (4096 * qn + n) (1 : Int32) from (by rw [nI_clamp (by omega), oo_vz1]))) hP
                          have hP : va_P D vwCl (mW cI cZ h b1 b2 b3 u d (upd (kl_joinT tr qn op q.toNatClampNeg r.toNatClampNeg n) (4096 * qn + n) (1 : Int32)) (nI fn) (nI qn) sd (0 : Int32)) H := hP
                          have hD : va_D _ (mW cI cZ h b1 b2 b3 u d (upd (kl_joinT tr qn op q.toNatClampNeg r.toNatClampNeg n) (4096 * qn + n) (1 : Int32)) (nI fn) (nI qn) sd (0 : Int32)) := oo_Dre hD (oo_fc (oo_fc (oo_fc (oo_fc rfl))))
                          refine lv_iinc (v := nI (n + 1)) (lv' := [(4, .int (nI (n + 1))), (6, .int (0 : Int32)), (5, .int ((kl_joinT tr qn op q.toNatClampNeg r.toNatClampNeg n) (4096 * q.toNatClampNeg + n))), (0, .ref h), (1, .int op), (2, .int q), (3, .int r)]) hx hb dX1_join_182 hl (k := 6) rfl (oo_inc n 1) (by decide) rfl (fun ls hl => ?_)
                          refine lv_goto (tgt := 52) hx hb dX1_join_185 (by decide) ?_
                          have hl : lv_has ls 7 [(0, .ref h), (1, .int op), (2, .int q), (3, .int r), (4, .int (nI (n + 1)))] := lv_sub hl [3, 4, 5, 6, 0] rfl
                          have hP := Eq.mp (congrArg (fun z9 => va_P D vwCl (mW cI cZ h b1 b2 b3 u d z9 (nI fn) (nI qn) sd (0 : Int32)) H) (show upd (kl_joinT tr qn op q.toNatClampNeg r.toNatClampNeg n) (4096 * qn + n) (1 : Int32) = kl_joinT tr qn op q.toNatClampNeg r.toNatClampNeg (n + 1) from (by simp only [kl_joinT, kl_jv]; rw [if_neg c_71, if_pos c_81, if_neg c_107, if_pos c_130, if_neg c_135]))) hP
                          have hP : va_P D vwCl (mW cI cZ h b1 b2 b3 u d (kl_joinT tr qn op q.toNatClampNeg r.toNatClampNeg (n + 1)) (nI fn) (nI qn) sd (0 : Int32)) H := hP
                          have hD : va_D _ (mW cI cZ h b1 b2 b3 u d (kl_joinT tr qn op q.toNatClampNeg r.toNatClampNeg (n + 1)) (nI fn) (nI qn) sd (0 : Int32)) := oo_Dre hD (oo_fc (oo_fc (oo_fc (oo_fc rfl))))
                          exact ihn _ _ _ ⟨hP, hD, hS, hl⟩
                        · refine lv_iload hx hb dX1_join_138 (lv_at hl 0 rfl) ?_
                          refine lv_if_eq (tgt := 147) hx hb dX1_join_140 (by decide) (fun c_140 => ?_) (fun c_140 => ?_)
                          · refine lv_iconst (v := (0 : Int32)) hx hb dX1_join_147 (by decide) ?_
                            refine lv_goto (tgt := 181) hx hb dX1_join_148 (by decide) ?_
                            refine va_zast hx hb hK hP hD hS 3 1 rfl rfl (vp_in_nI (by omega) (by omega)) dX1_join_181 (fun H locs hP hD hS => ?_)
                            have hP : va_P D vwCl (mW cI cZ h b1 b2 b3 u d (upd (kl_joinT tr qn op q.toNatClampNeg r.toNatClampNeg n) (nI (4096 * qn + n)).toNatClampNeg (vp_nar .boolean (0 : Int32))) (nI fn) (nI qn) sd (0 : Int32)) H := hP
                            have hD : va_D _ (mW cI cZ h b1 b2 b3 u d (upd (kl_joinT tr qn op q.toNatClampNeg r.toNatClampNeg n) (nI (4096 * qn + n)).toNatClampNeg (vp_nar .boolean (0 : Int32))) (nI fn) (nI qn) sd (0 : Int32)) := hD
                            have hP := Eq.mp (congrArg (fun z9 => va_P D vwCl (mW cI cZ h b1 b2 b3 u d z9 (nI fn) (nI qn) sd (0 : Int32)) H) (show upd (kl_joinT tr qn op q.toNatClampNeg r.toNatClampNeg n) (nI (4096 * qn + n)).toNatClampNeg (vp_nar .boolean (0 : Int32)) = upd (kl_joinT tr qn op q.toNatClampNeg r.toNatClampNeg n) (4096 * qn + n) (0 : Int32) from (by rw [nI_clamp (by omega), oo_vz0]))) hP
                            have hP : va_P D vwCl (mW cI cZ h b1 b2 b3 u d (upd (kl_joinT tr qn op q.toNatClampNeg r.toNatClampNeg n) (4096 * qn + n) (0 : Int32)) (nI fn) (nI qn) sd (0 : Int32)) H := hP
                            have hD : va_D _ (mW cI cZ h b1 b2 b3 u d (upd (kl_joinT tr qn op q.toNatClampNeg r.toNatClampNeg n) (4096 * qn + n) (0 : Int32)) (nI fn) (nI qn) sd (0 : Int32)) := oo_Dre hD (oo_fc (oo_fc (oo_fc (oo_fc rfl))))
                            refine lv_iinc (v := nI (n + 1)) (lv' := [(4, .int (nI (n + 1))), (6, .int (0 : Int32)), (5, .int ((kl_joinT tr qn op q.toNatClampNeg r.toNatClampNeg n) (4096 * q.toNatClampNeg + n))), (0, .ref h), (1, .int op), (2, .int q), (3, .int r)]) hx hb dX1_join_182 hl (k := 6) rfl (oo_inc n 1) (by decide) rfl (fun ls hl => ?_)
                            refine lv_goto (tgt := 52) hx hb dX1_join_185 (by decide) ?_
                            have hl : lv_has ls 7 [(0, .ref h), (1, .int op), (2, .int q), (3, .int r), (4, .int (nI (n + 1)))] := lv_sub hl [3, 4, 5, 6, 0] rfl
                            have hP := Eq.mp (congrArg (fun z9 => va_P D vwCl (mW cI cZ h b1 b2 b3 u d z9 (nI fn) (nI qn) sd (0 : Int32)) H) (show upd (kl_joinT tr qn op q.toNatClampNeg r.toNatClampNeg n) (4096 * qn + n) (0 : Int32) = kl_joinT tr qn op q.toNatClampNeg r.toNatClampNeg (n + 1) from (by simp only [kl_joinT, kl_jv]; rw [if_neg c_71, if_pos c_81, if_neg c_107, if_pos c_130, if_pos c_135, if_pos c_140]))) hP
                            have hP : va_P D vwCl (mW cI cZ h b1 b2 b3 u d (kl_joinT tr qn op q.toNatClampNeg r.toNatClampNeg (n + 1)) (nI fn) (nI qn) sd (0 : Int32)) H := hP
                            have hD : va_D _ (mW cI cZ h b1 b2 b3 u d (kl_joinT tr qn op q.toNatClampNeg r.toNatClampNeg (n + 1)) (nI fn) (nI qn) sd (0 : Int32)) := oo_Dre hD (oo_fc (oo_fc (oo_fc (oo_fc rfl))))
                            exact ihn _ _ _ ⟨hP, hD, hS, hl⟩
                          · refine lv_iconst (v := (1 : Int32)) hx hb dX1_join_143 (by decide) ?_
                            refine lv_goto (tgt := 181) hx hb dX1_join_144 (by decide) ?_
                            refine va_zast hx hb hK hP hD hS 3 1 rfl rfl (vp_in_nI (by omega) (by omega)) dX1_join_181 (fun H locs hP hD hS => ?_)
                            have hP : va_P D vwCl (mW cI cZ h b1 b2 b3 u d (upd (kl_joinT tr qn op q.toNatClampNeg r.toNatClampNeg n) (nI (4096 * qn + n)).toNatClampNeg (vp_nar .boolean (1 : Int32))) (nI fn) (nI qn) sd (0 : Int32)) H := hP
                            have hD : va_D _ (mW cI cZ h b1 b2 b3 u d (upd (kl_joinT tr qn op q.toNatClampNeg r.toNatClampNeg n) (nI (4096 * qn + n)).toNatClampNeg (vp_nar .boolean (1 : Int32))) (nI fn) (nI qn) sd (0 : Int32)) := hD
                            have hP := Eq.mp (congrArg (fun z9 => va_P D vwCl (mW cI cZ h b1 b2 b3 u d z9 (nI fn) (nI qn) sd (0 : Int32)) H) (show upd (kl_joinT tr qn op q.toNatClampNeg r.toNatClampNeg n) (nI (4096 * qn + n)).toNatClampNeg (vp_nar .boolean (1 : Int32)) = upd (kl_joinT tr qn op q.toNatClampNeg r.toNatClampNeg n) (4096 * qn + n) (1 : Int32) from (by rw [nI_clamp (by omega), oo_vz1]))) hP
                            have hP : va_P D vwCl (mW cI cZ h b1 b2 b3 u d (upd (kl_joinT tr qn op q.toNatClampNeg r.toNatClampNeg n) (4096 * qn + n) (1 : Int32)) (nI fn) (nI qn) sd (0 : Int32)) H := hP
                            have hD : va_D _ (mW cI cZ h b1 b2 b3 u d (upd (kl_joinT tr qn op q.toNatClampNeg r.toNatClampNeg n) (4096 * qn + n) (1 : Int32)) (nI fn) (nI qn) sd (0 : Int32)) := oo_Dre hD (oo_fc (oo_fc (oo_fc (oo_fc rfl))))
                            refine lv_iinc (v := nI (n + 1)) (lv' := [(4, .int (nI (n + 1))), (6, .int (0 : Int32)), (5, .int ((kl_joinT tr qn op q.toNatClampNeg r.toNatClampNeg n) (4096 * q.toNatClampNeg + n))), (0, .ref h), (1, .int op), (2, .int q), (3, .int r)]) hx hb dX1_join_182 hl (k := 6) rfl (oo_inc n 1) (by decide) rfl (fun ls hl => ?_)
                            refine lv_goto (tgt := 52) hx hb dX1_join_185 (by decide) ?_
                            have hl : lv_has ls 7 [(0, .ref h), (1, .int op), (2, .int q), (3, .int r), (4, .int (nI (n + 1)))] := lv_sub hl [3, 4, 5, 6, 0] rfl
                            have hP := Eq.mp (congrArg (fun z9 => va_P D vwCl (mW cI cZ h b1 b2 b3 u d z9 (nI fn) (nI qn) sd (0 : Int32)) H) (show upd (kl_joinT tr qn op q.toNatClampNeg r.toNatClampNeg n) (4096 * qn + n) (1 : Int32) = kl_joinT tr qn op q.toNatClampNeg r.toNatClampNeg (n + 1) from (by simp only [kl_joinT, kl_jv]; rw [if_neg c_71, if_pos c_81, if_neg c_107, if_pos c_130, if_pos c_135, if_neg c_140]))) hP
                            have hP : va_P D vwCl (mW cI cZ h b1 b2 b3 u d (kl_joinT tr qn op q.toNatClampNeg r.toNatClampNeg (n + 1)) (nI fn) (nI qn) sd (0 : Int32)) H := hP
                            have hD : va_D _ (mW cI cZ h b1 b2 b3 u d (kl_joinT tr qn op q.toNatClampNeg r.toNatClampNeg (n + 1)) (nI fn) (nI qn) sd (0 : Int32)) := oo_Dre hD (oo_fc (oo_fc (oo_fc (oo_fc rfl))))
                            exact ihn _ _ _ ⟨hP, hD, hS, hl⟩
                    · refine lv_iload hx hb dX1_join_110 (lv_at hl 1 rfl) ?_
                      refine lv_if_eq (tgt := 124) hx hb dX1_join_112 (by decide) (fun c_112 => ?_) (fun c_112 => ?_)
                      · refine lv_iconst (v := (0 : Int32)) hx hb dX1_join_124 (by decide) ?_
                        refine lv_goto (tgt := 181) hx hb dX1_join_125 (by decide) ?_
                        refine va_zast hx hb hK hP hD hS 3 1 rfl rfl (vp_in_nI (by omega) (by omega)) dX1_join_181 (fun H locs hP hD hS => ?_)
                        have hP : va_P D vwCl (mW cI cZ h b1 b2 b3 u d (upd (kl_joinT tr qn op q.toNatClampNeg r.toNatClampNeg n) (nI (4096 * qn + n)).toNatClampNeg (vp_nar .boolean (0 : Int32))) (nI fn) (nI qn) sd (0 : Int32)) H := hP
                        have hD : va_D _ (mW cI cZ h b1 b2 b3 u d (upd (kl_joinT tr qn op q.toNatClampNeg r.toNatClampNeg n) (nI (4096 * qn + n)).toNatClampNeg (vp_nar .boolean (0 : Int32))) (nI fn) (nI qn) sd (0 : Int32)) := hD
                        have hP := Eq.mp (congrArg (fun z9 => va_P D vwCl (mW cI cZ h b1 b2 b3 u d z9 (nI fn) (nI qn) sd (0 : Int32)) H) (show upd (kl_joinT tr qn op q.toNatClampNeg r.toNatClampNeg n) (nI (4096 * qn + n)).toNatClampNeg (vp_nar .boolean (0 : Int32)) = upd (kl_joinT tr qn op q.toNatClampNeg r.toNatClampNeg n) (4096 * qn + n) (0 : Int32) from (by rw [nI_clamp (by omega), oo_vz0]))) hP
                        have hP : va_P D vwCl (mW cI cZ h b1 b2 b3 u d (upd (kl_joinT tr qn op q.toNatClampNeg r.toNatClampNeg n) (4096 * qn + n) (0 : Int32)) (nI fn) (nI qn) sd (0 : Int32)) H := hP
                        have hD : va_D _ (mW cI cZ h b1 b2 b3 u d (upd (kl_joinT tr qn op q.toNatClampNeg r.toNatClampNeg n) (4096 * qn + n) (0 : Int32)) (nI fn) (nI qn) sd (0 : Int32)) := oo_Dre hD (oo_fc (oo_fc (oo_fc (oo_fc rfl))))
                        refine lv_iinc (v := nI (n + 1)) (lv' := [(4, .int (nI (n + 1))), (6, .int (0 : Int32)), (5, .int ((kl_joinT tr qn op q.toNatClampNeg r.toNatClampNeg n) (4096 * q.toNatClampNeg + n))), (0, .ref h), (1, .int op), (2, .int q), (3, .int r)]) hx hb dX1_join_182 hl (k := 6) rfl (oo_inc n 1) (by decide) rfl (fun ls hl => ?_)
                        refine lv_goto (tgt := 52) hx hb dX1_join_185 (by decide) ?_
                        have hl : lv_has ls 7 [(0, .ref h), (1, .int op), (2, .int q), (3, .int r), (4, .int (nI (n + 1)))] := lv_sub hl [3, 4, 5, 6, 0] rfl
                        have hP := Eq.mp (congrArg (fun z9 => va_P D vwCl (mW cI cZ h b1 b2 b3 u d z9 (nI fn) (nI qn) sd (0 : Int32)) H) (show upd (kl_joinT tr qn op q.toNatClampNeg r.toNatClampNeg n) (4096 * qn + n) (0 : Int32) = kl_joinT tr qn op q.toNatClampNeg r.toNatClampNeg (n + 1) from (by simp only [kl_joinT, kl_jv]; rw [if_neg c_71, if_pos c_81, if_pos c_107, if_pos c_112]))) hP
                        have hP : va_P D vwCl (mW cI cZ h b1 b2 b3 u d (kl_joinT tr qn op q.toNatClampNeg r.toNatClampNeg (n + 1)) (nI fn) (nI qn) sd (0 : Int32)) H := hP
                        have hD : va_D _ (mW cI cZ h b1 b2 b3 u d (kl_joinT tr qn op q.toNatClampNeg r.toNatClampNeg (n + 1)) (nI fn) (nI qn) sd (0 : Int32)) := oo_Dre hD (oo_fc (oo_fc (oo_fc (oo_fc rfl))))
                        exact ihn _ _ _ ⟨hP, hD, hS, hl⟩
                      · refine lv_iload hx hb dX1_join_115 (lv_at hl 0 rfl) ?_
                        refine lv_if_eq (tgt := 124) hx hb dX1_join_117 (by decide) (fun c_117 => ?_) (fun c_117 => ?_)
                        · refine lv_iconst (v := (0 : Int32)) hx hb dX1_join_124 (by decide) ?_
                          refine lv_goto (tgt := 181) hx hb dX1_join_125 (by decide) ?_
                          refine va_zast hx hb hK hP hD hS 3 1 rfl rfl (vp_in_nI (by omega) (by omega)) dX1_join_181 (fun H locs hP hD hS => ?_)
                          have hP : va_P D vwCl (mW cI cZ h b1 b2 b3 u d (upd (kl_joinT tr qn op q.toNatClampNeg r.toNatClampNeg n) (nI (4096 * qn + n)).toNatClampNeg (vp_nar .boolean (0 : Int32))) (nI fn) (nI qn) sd (0 : Int32)) H := hP
                          have hD : va_D _ (mW cI cZ h b1 b2 b3 u d (upd (kl_joinT tr qn op q.toNatClampNeg r.toNatClampNeg n) (nI (4096 * qn + n)).toNatClampNeg (vp_nar .boolean (0 : Int32))) (nI fn) (nI qn) sd (0 : Int32)) := hD
                          have hP := Eq.mp (congrArg (fun z9 => va_P D vwCl (mW cI cZ h b1 b2 b3 u d z9 (nI fn) (nI qn) sd (0 : Int32)) H) (show upd (kl_joinT tr qn op q.toNatClampNeg r.toNatClampNeg n) (nI (4096 * qn + n)).toNatClampNeg (vp_nar .boolean (0 : Int32)) = upd (kl_joinT tr qn op q.toNatClampNeg r.toNatClampNeg n) (4096 * qn + n) (0 : Int32) from (by rw [nI_clamp (by omega), oo_vz0]))) hP
                          have hP : va_P D vwCl (mW cI cZ h b1 b2 b3 u d (upd (kl_joinT tr qn op q.toNatClampNeg r.toNatClampNeg n) (4096 * qn + n) (0 : Int32)) (nI fn) (nI qn) sd (0 : Int32)) H := hP
                          have hD : va_D _ (mW cI cZ h b1 b2 b3 u d (upd (kl_joinT tr qn op q.toNatClampNeg r.toNatClampNeg n) (4096 * qn + n) (0 : Int32)) (nI fn) (nI qn) sd (0 : Int32)) := oo_Dre hD (oo_fc (oo_fc (oo_fc (oo_fc rfl))))
                          refine lv_iinc (v := nI (n + 1)) (lv' := [(4, .int (nI (n + 1))), (6, .int (0 : Int32)), (5, .int ((kl_joinT tr qn op q.toNatClampNeg r.toNatClampNeg n) (4096 * q.toNatClampNeg + n))), (0, .ref h), (1, .int op), (2, .int q), (3, .int r)]) hx hb dX1_join_182 hl (k := 6) rfl (oo_inc n 1) (by decide) rfl (fun ls hl => ?_)
                          refine lv_goto (tgt := 52) hx hb dX1_join_185 (by decide) ?_
                          have hl : lv_has ls 7 [(0, .ref h), (1, .int op), (2, .int q), (3, .int r), (4, .int (nI (n + 1)))] := lv_sub hl [3, 4, 5, 6, 0] rfl
                          have hP := Eq.mp (congrArg (fun z9 => va_P D vwCl (mW cI cZ h b1 b2 b3 u d z9 (nI fn) (nI qn) sd (0 : Int32)) H) (show upd (kl_joinT tr qn op q.toNatClampNeg r.toNatClampNeg n) (4096 * qn + n) (0 : Int32) = kl_joinT tr qn op q.toNatClampNeg r.toNatClampNeg (n + 1) from (by simp only [kl_joinT, kl_jv]; rw [if_neg c_71, if_pos c_81, if_pos c_107, if_neg c_112, if_pos c_117]))) hP
                          have hP : va_P D vwCl (mW cI cZ h b1 b2 b3 u d (kl_joinT tr qn op q.toNatClampNeg r.toNatClampNeg (n + 1)) (nI fn) (nI qn) sd (0 : Int32)) H := hP
                          have hD : va_D _ (mW cI cZ h b1 b2 b3 u d (kl_joinT tr qn op q.toNatClampNeg r.toNatClampNeg (n + 1)) (nI fn) (nI qn) sd (0 : Int32)) := oo_Dre hD (oo_fc (oo_fc (oo_fc (oo_fc rfl))))
                          exact ihn _ _ _ ⟨hP, hD, hS, hl⟩
                        · refine lv_iconst (v := (1 : Int32)) hx hb dX1_join_120 (by decide) ?_
                          refine lv_goto (tgt := 181) hx hb dX1_join_121 (by decide) ?_
                          refine va_zast hx hb hK hP hD hS 3 1 rfl rfl (vp_in_nI (by omega) (by omega)) dX1_join_181 (fun H locs hP hD hS => ?_)
                          have hP : va_P D vwCl (mW cI cZ h b1 b2 b3 u d (upd (kl_joinT tr qn op q.toNatClampNeg r.toNatClampNeg n) (nI (4096 * qn + n)).toNatClampNeg (vp_nar .boolean (1 : Int32))) (nI fn) (nI qn) sd (0 : Int32)) H := hP
                          have hD : va_D _ (mW cI cZ h b1 b2 b3 u d (upd (kl_joinT tr qn op q.toNatClampNeg r.toNatClampNeg n) (nI (4096 * qn + n)).toNatClampNeg (vp_nar .boolean (1 : Int32))) (nI fn) (nI qn) sd (0 : Int32)) := hD
                          have hP := Eq.mp (congrArg (fun z9 => va_P D vwCl (mW cI cZ h b1 b2 b3 u d z9 (nI fn) (nI qn) sd (0 : Int32)) H) (show upd (kl_joinT tr qn op q.toNatClampNeg r.toNatClampNeg n) (nI (4096 * qn + n)).toNatClampNeg (vp_nar .boolean (1 : Int32)) = upd (kl_joinT tr qn op q.toNatClampNeg r.toNatClampNeg n) (4096 * qn + n) (1 : Int32) from (by rw [nI_clamp (by omega), oo_vz1]))) hP
                          have hP : va_P D vwCl (mW cI cZ h b1 b2 b3 u d (upd (kl_joinT tr qn op q.toNatClampNeg r.toNatClampNeg n) (4096 * qn + n) (1 : Int32)) (nI fn) (nI qn) sd (0 : Int32)) H := hP
                          have hD : va_D _ (mW cI cZ h b1 b2 b3 u d (upd (kl_joinT tr qn op q.toNatClampNeg r.toNatClampNeg n) (4096 * qn + n) (1 : Int32)) (nI fn) (nI qn) sd (0 : Int32)) := oo_Dre hD (oo_fc (oo_fc (oo_fc (oo_fc rfl))))
                          refine lv_iinc (v := nI (n + 1)) (lv' := [(4, .int (nI (n + 1))), (6, .int (0 : Int32)), (5, .int ((kl_joinT tr qn op q.toNatClampNeg r.toNatClampNeg n) (4096 * q.toNatClampNeg + n))), (0, .ref h), (1, .int op), (2, .int q), (3, .int r)]) hx hb dX1_join_182 hl (k := 6) rfl (oo_inc n 1) (by decide) rfl (fun ls hl => ?_)
                          refine lv_goto (tgt := 52) hx hb dX1_join_185 (by decide) ?_
                          have hl : lv_has ls 7 [(0, .ref h), (1, .int op), (2, .int q), (3, .int r), (4, .int (nI (n + 1)))] := lv_sub hl [3, 4, 5, 6, 0] rfl
                          have hP := Eq.mp (congrArg (fun z9 => va_P D vwCl (mW cI cZ h b1 b2 b3 u d z9 (nI fn) (nI qn) sd (0 : Int32)) H) (show upd (kl_joinT tr qn op q.toNatClampNeg r.toNatClampNeg n) (4096 * qn + n) (1 : Int32) = kl_joinT tr qn op q.toNatClampNeg r.toNatClampNeg (n + 1) from (by simp only [kl_joinT, kl_jv]; rw [if_neg c_71, if_pos c_81, if_pos c_107, if_neg c_112, if_neg c_117]))) hP
                          have hP : va_P D vwCl (mW cI cZ h b1 b2 b3 u d (kl_joinT tr qn op q.toNatClampNeg r.toNatClampNeg (n + 1)) (nI fn) (nI qn) sd (0 : Int32)) H := hP
                          have hD : va_D _ (mW cI cZ h b1 b2 b3 u d (kl_joinT tr qn op q.toNatClampNeg r.toNatClampNeg (n + 1)) (nI fn) (nI qn) sd (0 : Int32)) := oo_Dre hD (oo_fc (oo_fc (oo_fc (oo_fc rfl))))
                          exact ihn _ _ _ ⟨hP, hD, hS, hl⟩
                  · refine lv_iconst (v := (1 : Int32)) hx hb dX1_join_84 (by decide) ?_
                    refine lv_goto (tgt := 89) hx hb dX1_join_85 (by decide) ?_
                    refine lv_istore (lv' := [(6, .int (1 : Int32)), (5, .int ((kl_joinT tr qn op q.toNatClampNeg r.toNatClampNeg n) (4096 * q.toNatClampNeg + n))), (0, .ref h), (1, .int op), (2, .int q), (3, .int r), (4, .int (nI n))]) hx hb dX1_join_89 hl (by decide) rfl (fun ls hl => ?_)
                    refine lv_aload_n hx hb dX1_join_91 rfl (lv_at hl 2 rfl) ?_
                    refine va_get (D := D) (ci := 1) (v := .ref b3) (C := RX1) (T := TX1) (N := 7) hx hb hts hin hown hK hP 0 rfl rfl 3 (by decide) (hts (.fieldLink RX1 17 "OddsSamplingModel" "truths" "[Z") (by decide +kernel)) (fun _ h9 => h9) rfl dX1_join_92 ?_
                    refine lv_sipush (v := nI 4096) hx hb dX1_join_95 (by decide) ?_
                    refine lv_aload_n hx hb dX1_join_98 rfl (lv_at hl 2 rfl) ?_
                    refine va_get (D := D) (ci := 1) (v := .int (nI qn)) (C := RX1) (T := TX1) (N := 7) hx hb hts hin hown hK hP 0 rfl rfl 4 (by decide) (hts (.fieldLink RX1 25 "OddsSamplingModel" "questions" "I") (by decide +kernel)) (fun _ h9 => h9) rfl dX1_join_99 ?_
                    refine lv_imul hx hb dX1_join_102 ?_
                    refine lv_iload hx hb dX1_join_103 (lv_at hl 6 rfl) ?_
                    refine lv_iadd hx hb dX1_join_105 ?_
                    refine oo_topI (y := nI (4096 * qn + n)) (by rw [pk_mul, nI_add]) ?_
                    refine lv_iload_n hx hb dX1_join_106 rfl (lv_at hl 3 rfl) ?_
                    refine lv_if_ne (tgt := 128) hx hb dX1_join_107 (by decide) (fun c_107 => ?_) (fun c_107 => ?_)
                    · refine lv_iload_n hx hb dX1_join_128 rfl (lv_at hl 3 rfl) ?_
                      refine lv_iconst (v := (1 : Int32)) hx hb dX1_join_129 (by decide) ?_
                      refine lv_icmp_ne (tgt := 151) hx hb dX1_join_130 (by decide) (fun c_130 => ?_) (fun c_130 => ?_)
                      · refine lv_iload_n hx hb dX1_join_151 rfl (lv_at hl 3 rfl) ?_
                        refine lv_iconst (v := (2 : Int32)) hx hb dX1_join_152 (by decide) ?_
                        refine lv_icmp_ne (tgt := 171) hx hb dX1_join_153 (by decide) (fun c_153 => ?_) (fun c_153 => ?_)
                        · refine lv_iload hx hb dX1_join_171 (lv_at hl 1 rfl) ?_
                          refine lv_if_ne (tgt := 180) hx hb dX1_join_173 (by decide) (fun c_173 => ?_) (fun c_173 => ?_)
                          · refine lv_iconst (v := (0 : Int32)) hx hb dX1_join_180 (by decide) ?_
                            refine va_zast hx hb hK hP hD hS 3 1 rfl rfl (vp_in_nI (by omega) (by omega)) dX1_join_181 (fun H locs hP hD hS => ?_)
                            have hP : va_P D vwCl (mW cI cZ h b1 b2 b3 u d (upd (kl_joinT tr qn op q.toNatClampNeg r.toNatClampNeg n) (nI (4096 * qn + n)).toNatClampNeg (vp_nar .boolean (0 : Int32))) (nI fn) (nI qn) sd (0 : Int32)) H := hP
                            have hD : va_D _ (mW cI cZ h b1 b2 b3 u d (upd (kl_joinT tr qn op q.toNatClampNeg r.toNatClampNeg n) (nI (4096 * qn + n)).toNatClampNeg (vp_nar .boolean (0 : Int32))) (nI fn) (nI qn) sd (0 : Int32)) := hD
                            have hP := Eq.mp (congrArg (fun z9 => va_P D vwCl (mW cI cZ h b1 b2 b3 u d z9 (nI fn) (nI qn) sd (0 : Int32)) H) (show upd (kl_joinT tr qn op q.toNatClampNeg r.toNatClampNeg n) (nI (4096 * qn + n)).toNatClampNeg (vp_nar .boolean (0 : Int32)) = upd (kl_joinT tr qn op q.toNatClampNeg r.toNatClampNeg n) (4096 * qn + n) (0 : Int32) from (by rw [nI_clamp (by omega), oo_vz0]))) hP
                            have hP : va_P D vwCl (mW cI cZ h b1 b2 b3 u d (upd (kl_joinT tr qn op q.toNatClampNeg r.toNatClampNeg n) (4096 * qn + n) (0 : Int32)) (nI fn) (nI qn) sd (0 : Int32)) H := hP
                            have hD : va_D _ (mW cI cZ h b1 b2 b3 u d (upd (kl_joinT tr qn op q.toNatClampNeg r.toNatClampNeg n) (4096 * qn + n) (0 : Int32)) (nI fn) (nI qn) sd (0 : Int32)) := oo_Dre hD (oo_fc (oo_fc (oo_fc (oo_fc rfl))))
                            refine lv_iinc (v := nI (n + 1)) (lv' := [(4, .int (nI (n + 1))), (6, .int (1 : Int32)), (5, .int ((kl_joinT tr qn op q.toNatClampNeg r.toNatClampNeg n) (4096 * q.toNatClampNeg + n))), (0, .ref h), (1, .int op), (2, .int q), (3, .int r)]) hx hb dX1_join_182 hl (k := 6) rfl (oo_inc n 1) (by decide) rfl (fun ls hl => ?_)
                            refine lv_goto (tgt := 52) hx hb dX1_join_185 (by decide) ?_
                            have hl : lv_has ls 7 [(0, .ref h), (1, .int op), (2, .int q), (3, .int r), (4, .int (nI (n + 1)))] := lv_sub hl [3, 4, 5, 6, 0] rfl
                            have hP := Eq.mp (congrArg (fun z9 => va_P D vwCl (mW cI cZ h b1 b2 b3 u d z9 (nI fn) (nI qn) sd (0 : Int32)) H) (show upd (kl_joinT tr qn op q.toNatClampNeg r.toNatClampNeg n) (4096 * qn + n) (0 : Int32) = kl_joinT tr qn op q.toNatClampNeg r.toNatClampNeg (n + 1) from (by simp only [kl_joinT, kl_jv]; rw [if_neg c_71, if_neg c_81, if_neg c_107, if_neg c_130, if_neg c_153, if_neg c_173]))) hP
                            have hP : va_P D vwCl (mW cI cZ h b1 b2 b3 u d (kl_joinT tr qn op q.toNatClampNeg r.toNatClampNeg (n + 1)) (nI fn) (nI qn) sd (0 : Int32)) H := hP
                            have hD : va_D _ (mW cI cZ h b1 b2 b3 u d (kl_joinT tr qn op q.toNatClampNeg r.toNatClampNeg (n + 1)) (nI fn) (nI qn) sd (0 : Int32)) := oo_Dre hD (oo_fc (oo_fc (oo_fc (oo_fc rfl))))
                            exact ihn _ _ _ ⟨hP, hD, hS, hl⟩
                          · refine lv_iconst (v := (1 : Int32)) hx hb dX1_join_176 (by decide) ?_
                            refine lv_goto (tgt := 181) hx hb dX1_join_177 (by decide) ?_
                            refine va_zast hx hb hK hP hD hS 3 1 rfl rfl (vp_in_nI (by omega) (by omega)) dX1_join_181 (fun H locs hP hD hS => ?_)
                            have hP : va_P D vwCl (mW cI cZ h b1 b2 b3 u d (upd (kl_joinT tr qn op q.toNatClampNeg r.toNatClampNeg n) (nI (4096 * qn + n)).toNatClampNeg (vp_nar .boolean (1 : Int32))) (nI fn) (nI qn) sd (0 : Int32)) H := hP
                            have hD : va_D _ (mW cI cZ h b1 b2 b3 u d (upd (kl_joinT tr qn op q.toNatClampNeg r.toNatClampNeg n) (nI (4096 * qn + n)).toNatClampNeg (vp_nar .boolean (1 : Int32))) (nI fn) (nI qn) sd (0 : Int32)) := hD
                            have hP := Eq.mp (congrArg (fun z9 => va_P D vwCl (mW cI cZ h b1 b2 b3 u d z9 (nI fn) (nI qn) sd (0 : Int32)) H) (show upd (kl_joinT tr qn op q.toNatClampNeg r.toNatClampNeg n) (nI (4096 * qn + n)).toNatClampNeg (vp_nar .boolean (1 : Int32)) = upd (kl_joinT tr qn op q.toNatClampNeg r.toNatClampNeg n) (4096 * qn + n) (1 : Int32) from (by rw [nI_clamp (by omega), oo_vz1]))) hP
                            have hP : va_P D vwCl (mW cI cZ h b1 b2 b3 u d (upd (kl_joinT tr qn op q.toNatClampNeg r.toNatClampNeg n) (4096 * qn + n) (1 : Int32)) (nI fn) (nI qn) sd (0 : Int32)) H := hP
                            have hD : va_D _ (mW cI cZ h b1 b2 b3 u d (upd (kl_joinT tr qn op q.toNatClampNeg r.toNatClampNeg n) (4096 * qn + n) (1 : Int32)) (nI fn) (nI qn) sd (0 : Int32)) := oo_Dre hD (oo_fc (oo_fc (oo_fc (oo_fc rfl))))
                            refine lv_iinc (v := nI (n + 1)) (lv' := [(4, .int (nI (n + 1))), (6, .int (1 : Int32)), (5, .int ((kl_joinT tr qn op q.toNatClampNeg r.toNatClampNeg n) (4096 * q.toNatClampNeg + n))), (0, .ref h), (1, .int op), (2, .int q), (3, .int r)]) hx hb dX1_join_182 hl (k := 6) rfl (oo_inc n 1) (by decide) rfl (fun ls hl => ?_)
                            refine lv_goto (tgt := 52) hx hb dX1_join_185 (by decide) ?_
                            have hl : lv_has ls 7 [(0, .ref h), (1, .int op), (2, .int q), (3, .int r), (4, .int (nI (n + 1)))] := lv_sub hl [3, 4, 5, 6, 0] rfl
                            have hP := Eq.mp (congrArg (fun z9 => va_P D vwCl (mW cI cZ h b1 b2 b3 u d z9 (nI fn) (nI qn) sd (0 : Int32)) H) (show upd (kl_joinT tr qn op q.toNatClampNeg r.toNatClampNeg n) (4096 * qn + n) (1 : Int32) = kl_joinT tr qn op q.toNatClampNeg r.toNatClampNeg (n + 1) from (by simp only [kl_joinT, kl_jv]; rw [if_neg c_71, if_neg c_81, if_neg c_107, if_neg c_130, if_neg c_153, if_pos c_173]))) hP
                            have hP : va_P D vwCl (mW cI cZ h b1 b2 b3 u d (kl_joinT tr qn op q.toNatClampNeg r.toNatClampNeg (n + 1)) (nI fn) (nI qn) sd (0 : Int32)) H := hP
                            have hD : va_D _ (mW cI cZ h b1 b2 b3 u d (kl_joinT tr qn op q.toNatClampNeg r.toNatClampNeg (n + 1)) (nI fn) (nI qn) sd (0 : Int32)) := oo_Dre hD (oo_fc (oo_fc (oo_fc (oo_fc rfl))))
                            exact ihn _ _ _ ⟨hP, hD, hS, hl⟩
                        · refine lv_iload hx hb dX1_join_156 (lv_at hl 1 rfl) ?_
                          refine lv_iload hx hb dX1_join_158 (lv_at hl 0 rfl) ?_
                          refine lv_icmp_eq (tgt := 167) hx hb dX1_join_160 (by decide) (fun c_160 => ?_) (fun c_160 => ?_)
                          · refine lv_iconst (v := (0 : Int32)) hx hb dX1_join_167 (by decide) ?_
                            refine lv_goto (tgt := 181) hx hb dX1_join_168 (by decide) ?_
                            refine va_zast hx hb hK hP hD hS 3 1 rfl rfl (vp_in_nI (by omega) (by omega)) dX1_join_181 (fun H locs hP hD hS => ?_)
                            have hP : va_P D vwCl (mW cI cZ h b1 b2 b3 u d (upd (kl_joinT tr qn op q.toNatClampNeg r.toNatClampNeg n) (nI (4096 * qn + n)).toNatClampNeg (vp_nar .boolean (0 : Int32))) (nI fn) (nI qn) sd (0 : Int32)) H := hP
                            have hD : va_D _ (mW cI cZ h b1 b2 b3 u d (upd (kl_joinT tr qn op q.toNatClampNeg r.toNatClampNeg n) (nI (4096 * qn + n)).toNatClampNeg (vp_nar .boolean (0 : Int32))) (nI fn) (nI qn) sd (0 : Int32)) := hD
                            have hP := Eq.mp (congrArg (fun z9 => va_P D vwCl (mW cI cZ h b1 b2 b3 u d z9 (nI fn) (nI qn) sd (0 : Int32)) H) (show upd (kl_joinT tr qn op q.toNatClampNeg r.toNatClampNeg n) (nI (4096 * qn + n)).toNatClampNeg (vp_nar .boolean (0 : Int32)) = upd (kl_joinT tr qn op q.toNatClampNeg r.toNatClampNeg n) (4096 * qn + n) (0 : Int32) from (by rw [nI_clamp (by omega), oo_vz0]))) hP
                            have hP : va_P D vwCl (mW cI cZ h b1 b2 b3 u d (upd (kl_joinT tr qn op q.toNatClampNeg r.toNatClampNeg n) (4096 * qn + n) (0 : Int32)) (nI fn) (nI qn) sd (0 : Int32)) H := hP
                            have hD : va_D _ (mW cI cZ h b1 b2 b3 u d (upd (kl_joinT tr qn op q.toNatClampNeg r.toNatClampNeg n) (4096 * qn + n) (0 : Int32)) (nI fn) (nI qn) sd (0 : Int32)) := oo_Dre hD (oo_fc (oo_fc (oo_fc (oo_fc rfl))))
                            refine lv_iinc (v := nI (n + 1)) (lv' := [(4, .int (nI (n + 1))), (6, .int (1 : Int32)), (5, .int ((kl_joinT tr qn op q.toNatClampNeg r.toNatClampNeg n) (4096 * q.toNatClampNeg + n))), (0, .ref h), (1, .int op), (2, .int q), (3, .int r)]) hx hb dX1_join_182 hl (k := 6) rfl (oo_inc n 1) (by decide) rfl (fun ls hl => ?_)
                            refine lv_goto (tgt := 52) hx hb dX1_join_185 (by decide) ?_
                            have hl : lv_has ls 7 [(0, .ref h), (1, .int op), (2, .int q), (3, .int r), (4, .int (nI (n + 1)))] := lv_sub hl [3, 4, 5, 6, 0] rfl
                            have hP := Eq.mp (congrArg (fun z9 => va_P D vwCl (mW cI cZ h b1 b2 b3 u d z9 (nI fn) (nI qn) sd (0 : Int32)) H) (show upd (kl_joinT tr qn op q.toNatClampNeg r.toNatClampNeg n) (4096 * qn + n) (0 : Int32) = kl_joinT tr qn op q.toNatClampNeg r.toNatClampNeg (n + 1) from (by simp only [kl_joinT, kl_jv]; rw [if_neg c_71, if_neg c_81, if_neg c_107, if_neg c_130, if_pos c_153, if_pos c_160]))) hP
                            have hP : va_P D vwCl (mW cI cZ h b1 b2 b3 u d (kl_joinT tr qn op q.toNatClampNeg r.toNatClampNeg (n + 1)) (nI fn) (nI qn) sd (0 : Int32)) H := hP
                            have hD : va_D _ (mW cI cZ h b1 b2 b3 u d (kl_joinT tr qn op q.toNatClampNeg r.toNatClampNeg (n + 1)) (nI fn) (nI qn) sd (0 : Int32)) := oo_Dre hD (oo_fc (oo_fc (oo_fc (oo_fc rfl))))
                            exact ihn _ _ _ ⟨hP, hD, hS, hl⟩
                          · refine lv_iconst (v := (1 : Int32)) hx hb dX1_join_163 (by decide) ?_
                            refine lv_goto (tgt := 181) hx hb dX1_join_164 (by decide) ?_
                            refine va_zast hx hb hK hP hD hS 3 1 rfl rfl (vp_in_nI (by omega) (by omega)) dX1_join_181 (fun H locs hP hD hS => ?_)
                            have hP : va_P D vwCl (mW cI cZ h b1 b2 b3 u d (upd (kl_joinT tr qn op q.toNatClampNeg r.toNatClampNeg n) (nI (4096 * qn + n)).toNatClampNeg (vp_nar .boolean (1 : Int32))) (nI fn) (nI qn) sd (0 : Int32)) H := hP
                            have hD : va_D _ (mW cI cZ h b1 b2 b3 u d (upd (kl_joinT tr qn op q.toNatClampNeg r.toNatClampNeg n) (nI (4096 * qn + n)).toNatClampNeg (vp_nar .boolean (1 : Int32))) (nI fn) (nI qn) sd (0 : Int32)) := hD
                            have hP := Eq.mp (congrArg (fun z9 => va_P D vwCl (mW cI cZ h b1 b2 b3 u d z9 (nI fn) (nI qn) sd (0 : Int32)) H) (show upd (kl_joinT tr qn op q.toNatClampNeg r.toNatClampNeg n) (nI (4096 * qn + n)).toNatClampNeg (vp_nar .boolean (1 : Int32)) = upd (kl_joinT tr qn op q.toNatClampNeg r.toNatClampNeg n) (4096 * qn + n) (1 : Int32) from (by rw [nI_clamp (by omega), oo_vz1]))) hP
                            have hP : va_P D vwCl (mW cI cZ h b1 b2 b3 u d (upd (kl_joinT tr qn op q.toNatClampNeg r.toNatClampNeg n) (4096 * qn + n) (1 : Int32)) (nI fn) (nI qn) sd (0 : Int32)) H := hP
                            have hD : va_D _ (mW cI cZ h b1 b2 b3 u d (upd (kl_joinT tr qn op q.toNatClampNeg r.toNatClampNeg n) (4096 * qn + n) (1 : Int32)) (nI fn) (nI qn) sd (0 : Int32)) := oo_Dre hD (oo_fc (oo_fc (oo_fc (oo_fc rfl))))
                            refine lv_iinc (v := nI (n + 1)) (lv' := [(4, .int (nI (n + 1))), (6, .int (1 : Int32)), (5, .int ((kl_joinT tr qn op q.toNatClampNeg r.toNatClampNeg n) (4096 * q.toNatClampNeg + n))), (0, .ref h), (1, .int op), (2, .int q), (3, .int r)]) hx hb dX1_join_182 hl (k := 6) rfl (oo_inc n 1) (by decide) rfl (fun ls hl => ?_)
                            refine lv_goto (tgt := 52) hx hb dX1_join_185 (by decide) ?_
                            have hl : lv_has ls 7 [(0, .ref h), (1, .int op), (2, .int q), (3, .int r), (4, .int (nI (n + 1)))] := lv_sub hl [3, 4, 5, 6, 0] rfl
                            have hP := Eq.mp (congrArg (fun z9 => va_P D vwCl (mW cI cZ h b1 b2 b3 u d z9 (nI fn) (nI qn) sd (0 : Int32)) H) (show upd (kl_joinT tr qn op q.toNatClampNeg r.toNatClampNeg n) (4096 * qn + n) (1 : Int32) = kl_joinT tr qn op q.toNatClampNeg r.toNatClampNeg (n + 1) from (by simp only [kl_joinT, kl_jv]; rw [if_neg c_71, if_neg c_81, if_neg c_107, if_neg c_130, if_pos c_153, if_neg c_160]))) hP
                            have hP : va_P D vwCl (mW cI cZ h b1 b2 b3 u d (kl_joinT tr qn op q.toNatClampNeg r.toNatClampNeg (n + 1)) (nI fn) (nI qn) sd (0 : Int32)) H := hP
                            have hD : va_D _ (mW cI cZ h b1 b2 b3 u d (kl_joinT tr qn op q.toNatClampNeg r.toNatClampNeg (n + 1)) (nI fn) (nI qn) sd (0 : Int32)) := oo_Dre hD (oo_fc (oo_fc (oo_fc (oo_fc rfl))))
                            exact ihn _ _ _ ⟨hP, hD, hS, hl⟩
                      · refine lv_iload hx hb dX1_join_133 (lv_at hl 1 rfl) ?_
                        refine lv_if_ne (tgt := 143) hx hb dX1_join_135 (by decide) (fun c_135 => ?_) (fun c_135 => ?_)
                        · refine lv_iconst (v := (1 : Int32)) hx hb dX1_join_143 (by decide) ?_
                          refine lv_goto (tgt := 181) hx hb dX1_join_144 (by decide) ?_
                          refine va_zast hx hb hK hP hD hS 3 1 rfl rfl (vp_in_nI (by omega) (by omega)) dX1_join_181 (fun H locs hP hD hS => ?_)
                          have hP : va_P D vwCl (mW cI cZ h b1 b2 b3 u d (upd (kl_joinT tr qn op q.toNatClampNeg r.toNatClampNeg n) (nI (4096 * qn + n)).toNatClampNeg (vp_nar .boolean (1 : Int32))) (nI fn) (nI qn) sd (0 : Int32)) H := hP
                          have hD : va_D _ (mW cI cZ h b1 b2 b3 u d (upd (kl_joinT tr qn op q.toNatClampNeg r.toNatClampNeg n) (nI (4096 * qn + n)).toNatClampNeg (vp_nar .boolean (1 : Int32))) (nI fn) (nI qn) sd (0 : Int32)) := hD
                          have hP := Eq.mp (congrArg (fun z9 => va_P D vwCl (mW cI cZ h b1 b2 b3 u d z9 (nI fn) (nI qn) sd (0 : Int32)) H) (show upd (kl_joinT tr qn op q.toNatClampNeg r.toNatClampNeg n) (nI (4096 * qn + n)).toNatClampNeg (vp_nar .boolean (1 : Int32)) = upd (kl_joinT tr qn op q.toNatClampNeg r.toNatClampNeg n) (4096 * qn + n) (1 : Int32) from (by rw [nI_clamp (by omega), oo_vz1]))) hP
                          have hP : va_P D vwCl (mW cI cZ h b1 b2 b3 u d (upd (kl_joinT tr qn op q.toNatClampNeg r.toNatClampNeg n) (4096 * qn + n) (1 : Int32)) (nI fn) (nI qn) sd (0 : Int32)) H := hP
                          have hD : va_D _ (mW cI cZ h b1 b2 b3 u d (upd (kl_joinT tr qn op q.toNatClampNeg r.toNatClampNeg n) (4096 * qn + n) (1 : Int32)) (nI fn) (nI qn) sd (0 : Int32)) := oo_Dre hD (oo_fc (oo_fc (oo_fc (oo_fc rfl))))
                          refine lv_iinc (v := nI (n + 1)) (lv' := [(4, .int (nI (n + 1))), (6, .int (1 : Int32)), (5, .int ((kl_joinT tr qn op q.toNatClampNeg r.toNatClampNeg n) (4096 * q.toNatClampNeg + n))), (0, .ref h), (1, .int op), (2, .int q), (3, .int r)]) hx hb dX1_join_182 hl (k := 6) rfl (oo_inc n 1) (by decide) rfl (fun ls hl => ?_)
                          refine lv_goto (tgt := 52) hx hb dX1_join_185 (by decide) ?_
                          have hl : lv_has ls 7 [(0, .ref h), (1, .int op), (2, .int q), (3, .int r), (4, .int (nI (n + 1)))] := lv_sub hl [3, 4, 5, 6, 0] rfl
                          have hP := Eq.mp (congrArg (fun z9 => va_P D vwCl (mW cI cZ h b1 b2 b3 u d z9 (nI fn) (nI qn) sd (0 : Int32)) H) (show upd (kl_joinT tr qn op q.toNatClampNeg r.toNatClampNeg n) (4096 * qn + n) (1 : Int32) = kl_joinT tr qn op q.toNatClampNeg r.toNatClampNeg (n + 1) from (by simp only [kl_joinT, kl_jv]; rw [if_neg c_71, if_neg c_81, if_neg c_107, if_pos c_130, if_neg c_135]))) hP
                          have hP : va_P D vwCl (mW cI cZ h b1 b2 b3 u d (kl_joinT tr qn op q.toNatClampNeg r.toNatClampNeg (n + 1)) (nI fn) (nI qn) sd (0 : Int32)) H := hP
                          have hD : va_D _ (mW cI cZ h b1 b2 b3 u d (kl_joinT tr qn op q.toNatClampNeg r.toNatClampNeg (n + 1)) (nI fn) (nI qn) sd (0 : Int32)) := oo_Dre hD (oo_fc (oo_fc (oo_fc (oo_fc rfl))))
                          exact ihn _ _ _ ⟨hP, hD, hS, hl⟩
                        · refine lv_iload hx hb dX1_join_138 (lv_at hl 0 rfl) ?_
                          refine lv_if_eq (tgt := 147) hx hb dX1_join_140 (by decide) (fun c_140 => ?_) (fun c_140 => ?_)
                          · refine lv_iconst (v := (0 : Int32)) hx hb dX1_join_147 (by decide) ?_
                            refine lv_goto (tgt := 181) hx hb dX1_join_148 (by decide) ?_
                            refine va_zast hx hb hK hP hD hS 3 1 rfl rfl (vp_in_nI (by omega) (by omega)) dX1_join_181 (fun H locs hP hD hS => ?_)
                            have hP : va_P D vwCl (mW cI cZ h b1 b2 b3 u d (upd (kl_joinT tr qn op q.toNatClampNeg r.toNatClampNeg n) (nI (4096 * qn + n)).toNatClampNeg (vp_nar .boolean (0 : Int32))) (nI fn) (nI qn) sd (0 : Int32)) H := hP
                            have hD : va_D _ (mW cI cZ h b1 b2 b3 u d (upd (kl_joinT tr qn op q.toNatClampNeg r.toNatClampNeg n) (nI (4096 * qn + n)).toNatClampNeg (vp_nar .boolean (0 : Int32))) (nI fn) (nI qn) sd (0 : Int32)) := hD
                            have hP := Eq.mp (congrArg (fun z9 => va_P D vwCl (mW cI cZ h b1 b2 b3 u d z9 (nI fn) (nI qn) sd (0 : Int32)) H) (show upd (kl_joinT tr qn op q.toNatClampNeg r.toNatClampNeg n) (nI (4096 * qn + n)).toNatClampNeg (vp_nar .boolean (0 : Int32)) = upd (kl_joinT tr qn op q.toNatClampNeg r.toNatClampNeg n) (4096 * qn + n) (0 : Int32) from (by rw [nI_clamp (by omega), oo_vz0]))) hP
                            have hP : va_P D vwCl (mW cI cZ h b1 b2 b3 u d (upd (kl_joinT tr qn op q.toNatClampNeg r.toNatClampNeg n) (4096 * qn + n) (0 : Int32)) (nI fn) (nI qn) sd (0 : Int32)) H := hP
                            have hD : va_D _ (mW cI cZ h b1 b2 b3 u d (upd (kl_joinT tr qn op q.toNatClampNeg r.toNatClampNeg n) (4096 * qn + n) (0 : Int32)) (nI fn) (nI qn) sd (0 : Int32)) := oo_Dre hD (oo_fc (oo_fc (oo_fc (oo_fc rfl))))
                            refine lv_iinc (v := nI (n + 1)) (lv' := [(4, .int (nI (n + 1))), (6, .int (1 : Int32)), (5, .int ((kl_joinT tr qn op q.toNatClampNeg r.toNatClampNeg n) (4096 * q.toNatClampNeg + n))), (0, .ref h), (1, .int op), (2, .int q), (3, .int r)]) hx hb dX1_join_182 hl (k := 6) rfl (oo_inc n 1) (by decide) rfl (fun ls hl => ?_)
                            refine lv_goto (tgt := 52) hx hb dX1_join_185 (by decide) ?_
                            have hl : lv_has ls 7 [(0, .ref h), (1, .int op), (2, .int q), (3, .int r), (4, .int (nI (n + 1)))] := lv_sub hl [3, 4, 5, 6, 0] rfl
                            have hP := Eq.mp (congrArg (fun z9 => va_P D vwCl (mW cI cZ h b1 b2 b3 u d z9 (nI fn) (nI qn) sd (0 : Int32)) H) (show upd (kl_joinT tr qn op q.toNatClampNeg r.toNatClampNeg n) (4096 * qn + n) (0 : Int32) = kl_joinT tr qn op q.toNatClampNeg r.toNatClampNeg (n + 1) from (by simp only [kl_joinT, kl_jv]; rw [if_neg c_71, if_neg c_81, if_neg c_107, if_pos c_130, if_pos c_135, if_pos c_140]))) hP
                            have hP : va_P D vwCl (mW cI cZ h b1 b2 b3 u d (kl_joinT tr qn op q.toNatClampNeg r.toNatClampNeg (n + 1)) (nI fn) (nI qn) sd (0 : Int32)) H := hP
                            have hD : va_D _ (mW cI cZ h b1 b2 b3 u d (kl_joinT tr qn op q.toNatClampNeg r.toNatClampNeg (n + 1)) (nI fn) (nI qn) sd (0 : Int32)) := oo_Dre hD (oo_fc (oo_fc (oo_fc (oo_fc rfl))))
                            exact ihn _ _ _ ⟨hP, hD, hS, hl⟩
                          · refine lv_iconst (v := (1 : Int32)) hx hb dX1_join_143 (by decide) ?_
                            refine lv_goto (tgt := 181) hx hb dX1_join_144 (by decide) ?_
                            refine va_zast hx hb hK hP hD hS 3 1 rfl rfl (vp_in_nI (by omega) (by omega)) dX1_join_181 (fun H locs hP hD hS => ?_)
                            have hP : va_P D vwCl (mW cI cZ h b1 b2 b3 u d (upd (kl_joinT tr qn op q.toNatClampNeg r.toNatClampNeg n) (nI (4096 * qn + n)).toNatClampNeg (vp_nar .boolean (1 : Int32))) (nI fn) (nI qn) sd (0 : Int32)) H := hP
                            have hD : va_D _ (mW cI cZ h b1 b2 b3 u d (upd (kl_joinT tr qn op q.toNatClampNeg r.toNatClampNeg n) (nI (4096 * qn + n)).toNatClampNeg (vp_nar .boolean (1 : Int32))) (nI fn) (nI qn) sd (0 : Int32)) := hD
                            have hP := Eq.mp (congrArg (fun z9 => va_P D vwCl (mW cI cZ h b1 b2 b3 u d z9 (nI fn) (nI qn) sd (0 : Int32)) H) (show upd (kl_joinT tr qn op q.toNatClampNeg r.toNatClampNeg n) (nI (4096 * qn + n)).toNatClampNeg (vp_nar .boolean (1 : Int32)) = upd (kl_joinT tr qn op q.toNatClampNeg r.toNatClampNeg n) (4096 * qn + n) (1 : Int32) from (by rw [nI_clamp (by omega), oo_vz1]))) hP
                            have hP : va_P D vwCl (mW cI cZ h b1 b2 b3 u d (upd (kl_joinT tr qn op q.toNatClampNeg r.toNatClampNeg n) (4096 * qn + n) (1 : Int32)) (nI fn) (nI qn) sd (0 : Int32)) H := hP
                            have hD : va_D _ (mW cI cZ h b1 b2 b3 u d (upd (kl_joinT tr qn op q.toNatClampNeg r.toNatClampNeg n) (4096 * qn + n) (1 : Int32)) (nI fn) (nI qn) sd (0 : Int32)) := oo_Dre hD (oo_fc (oo_fc (oo_fc (oo_fc rfl))))
                            refine lv_iinc (v := nI (n + 1)) (lv' := [(4, .int (nI (n + 1))), (6, .int (1 : Int32)), (5, .int ((kl_joinT tr qn op q.toNatClampNeg r.toNatClampNeg n) (4096 * q.toNatClampNeg + n))), (0, .ref h), (1, .int op), (2, .int q), (3, .int r)]) hx hb dX1_join_182 hl (k := 6) rfl (oo_inc n 1) (by decide) rfl (fun ls hl => ?_)
                            refine lv_goto (tgt := 52) hx hb dX1_join_185 (by decide) ?_
                            have hl : lv_has ls 7 [(0, .ref h), (1, .int op), (2, .int q), (3, .int r), (4, .int (nI (n + 1)))] := lv_sub hl [3, 4, 5, 6, 0] rfl
                            have hP := Eq.mp (congrArg (fun z9 => va_P D vwCl (mW cI cZ h b1 b2 b3 u d z9 (nI fn) (nI qn) sd (0 : Int32)) H) (show upd (kl_joinT tr qn op q.toNatClampNeg r.toNatClampNeg n) (4096 * qn + n) (1 : Int32) = kl_joinT tr qn op q.toNatClampNeg r.toNatClampNeg (n + 1) from (by simp only [kl_joinT, kl_jv]; rw [if_neg c_71, if_neg c_81, if_neg c_107, if_pos c_130, if_pos c_135, if_neg c_140]))) hP
                            have hP : va_P D vwCl (mW cI cZ h b1 b2 b3 u d (kl_joinT tr qn op q.toNatClampNeg r.toNatClampNeg (n + 1)) (nI fn) (nI qn) sd (0 : Int32)) H := hP
                            have hD : va_D _ (mW cI cZ h b1 b2 b3 u d (kl_joinT tr qn op q.toNatClampNeg r.toNatClampNeg (n + 1)) (nI fn) (nI qn) sd (0 : Int32)) := oo_Dre hD (oo_fc (oo_fc (oo_fc (oo_fc rfl))))
                            exact ihn _ _ _ ⟨hP, hD, hS, hl⟩
                    · refine lv_iload hx hb dX1_join_110 (lv_at hl 1 rfl) ?_
                      refine lv_if_eq (tgt := 124) hx hb dX1_join_112 (by decide) (fun c_112 => ?_) (fun c_112 => ?_)
                      · refine lv_iconst (v := (0 : Int32)) hx hb dX1_join_124 (by decide) ?_
                        refine lv_goto (tgt := 181) hx hb dX1_join_125 (by decide) ?_
                        refine va_zast hx hb hK hP hD hS 3 1 rfl rfl (vp_in_nI (by omega) (by omega)) dX1_join_181 (fun H locs hP hD hS => ?_)
                        have hP : va_P D vwCl (mW cI cZ h b1 b2 b3 u d (upd (kl_joinT tr qn op q.toNatClampNeg r.toNatClampNeg n) (nI (4096 * qn + n)).toNatClampNeg (vp_nar .boolean (0 : Int32))) (nI fn) (nI qn) sd (0 : Int32)) H := hP
                        have hD : va_D _ (mW cI cZ h b1 b2 b3 u d (upd (kl_joinT tr qn op q.toNatClampNeg r.toNatClampNeg n) (nI (4096 * qn + n)).toNatClampNeg (vp_nar .boolean (0 : Int32))) (nI fn) (nI qn) sd (0 : Int32)) := hD
                        have hP := Eq.mp (congrArg (fun z9 => va_P D vwCl (mW cI cZ h b1 b2 b3 u d z9 (nI fn) (nI qn) sd (0 : Int32)) H) (show upd (kl_joinT tr qn op q.toNatClampNeg r.toNatClampNeg n) (nI (4096 * qn + n)).toNatClampNeg (vp_nar .boolean (0 : Int32)) = upd (kl_joinT tr qn op q.toNatClampNeg r.toNatClampNeg n) (4096 * qn + n) (0 : Int32) from (by rw [nI_clamp (by omega), oo_vz0]))) hP
                        have hP : va_P D vwCl (mW cI cZ h b1 b2 b3 u d (upd (kl_joinT tr qn op q.toNatClampNeg r.toNatClampNeg n) (4096 * qn + n) (0 : Int32)) (nI fn) (nI qn) sd (0 : Int32)) H := hP
                        have hD : va_D _ (mW cI cZ h b1 b2 b3 u d (upd (kl_joinT tr qn op q.toNatClampNeg r.toNatClampNeg n) (4096 * qn + n) (0 : Int32)) (nI fn) (nI qn) sd (0 : Int32)) := oo_Dre hD (oo_fc (oo_fc (oo_fc (oo_fc rfl))))
                        refine lv_iinc (v := nI (n + 1)) (lv' := [(4, .int (nI (n + 1))), (6, .int (1 : Int32)), (5, .int ((kl_joinT tr qn op q.toNatClampNeg r.toNatClampNeg n) (4096 * q.toNatClampNeg + n))), (0, .ref h), (1, .int op), (2, .int q), (3, .int r)]) hx hb dX1_join_182 hl (k := 6) rfl (oo_inc n 1) (by decide) rfl (fun ls hl => ?_)
                        refine lv_goto (tgt := 52) hx hb dX1_join_185 (by decide) ?_
                        have hl : lv_has ls 7 [(0, .ref h), (1, .int op), (2, .int q), (3, .int r), (4, .int (nI (n + 1)))] := lv_sub hl [3, 4, 5, 6, 0] rfl
                        have hP := Eq.mp (congrArg (fun z9 => va_P D vwCl (mW cI cZ h b1 b2 b3 u d z9 (nI fn) (nI qn) sd (0 : Int32)) H) (show upd (kl_joinT tr qn op q.toNatClampNeg r.toNatClampNeg n) (4096 * qn + n) (0 : Int32) = kl_joinT tr qn op q.toNatClampNeg r.toNatClampNeg (n + 1) from (by simp only [kl_joinT, kl_jv]; rw [if_neg c_71, if_neg c_81, if_pos c_107, if_pos c_112]))) hP
                        have hP : va_P D vwCl (mW cI cZ h b1 b2 b3 u d (kl_joinT tr qn op q.toNatClampNeg r.toNatClampNeg (n + 1)) (nI fn) (nI qn) sd (0 : Int32)) H := hP
                        have hD : va_D _ (mW cI cZ h b1 b2 b3 u d (kl_joinT tr qn op q.toNatClampNeg r.toNatClampNeg (n + 1)) (nI fn) (nI qn) sd (0 : Int32)) := oo_Dre hD (oo_fc (oo_fc (oo_fc (oo_fc rfl))))
                        exact ihn _ _ _ ⟨hP, hD, hS, hl⟩
                      · refine lv_iload hx hb dX1_join_115 (lv_at hl 0 rfl) ?_
                        refine lv_if_eq (tgt := 124) hx hb dX1_join_117 (by decide) (fun c_117 => ?_) (fun c_117 => ?_)
                        · refine lv_iconst (v := (0 : Int32)) hx hb dX1_join_124 (by decide) ?_
                          refine lv_goto (tgt := 181) hx hb dX1_join_125 (by decide) ?_
                          refine va_zast hx hb hK hP hD hS 3 1 rfl rfl (vp_in_nI (by omega) (by omega)) dX1_join_181 (fun H locs hP hD hS => ?_)
                          have hP : va_P D vwCl (mW cI cZ h b1 b2 b3 u d (upd (kl_joinT tr qn op q.toNatClampNeg r.toNatClampNeg n) (nI (4096 * qn + n)).toNatClampNeg (vp_nar .boolean (0 : Int32))) (nI fn) (nI qn) sd (0 : Int32)) H := hP
                          have hD : va_D _ (mW cI cZ h b1 b2 b3 u d (upd (kl_joinT tr qn op q.toNatClampNeg r.toNatClampNeg n) (nI (4096 * qn + n)).toNatClampNeg (vp_nar .boolean (0 : Int32))) (nI fn) (nI qn) sd (0 : Int32)) := hD
                          have hP := Eq.mp (congrArg (fun z9 => va_P D vwCl (mW cI cZ h b1 b2 b3 u d z9 (nI fn) (nI qn) sd (0 : Int32)) H) (show upd (kl_joinT tr qn op q.toNatClampNeg r.toNatClampNeg n) (nI (4096 * qn + n)).toNatClampNeg (vp_nar .boolean (0 : Int32)) = upd (kl_joinT tr qn op q.toNatClampNeg r.toNatClampNeg n) (4096 * qn + n) (0 : Int32) from (by rw [nI_clamp (by omega), oo_vz0]))) hP
                          have hP : va_P D vwCl (mW cI cZ h b1 b2 b3 u d (upd (kl_joinT tr qn op q.toNatClampNeg r.toNatClampNeg n) (4096 * qn + n) (0 : Int32)) (nI fn) (nI qn) sd (0 : Int32)) H := hP
                          have hD : va_D _ (mW cI cZ h b1 b2 b3 u d (upd (kl_joinT tr qn op q.toNatClampNeg r.toNatClampNeg n) (4096 * qn + n) (0 : Int32)) (nI fn) (nI qn) sd (0 : Int32)) := oo_Dre hD (oo_fc (oo_fc (oo_fc (oo_fc rfl))))
                          refine lv_iinc (v := nI (n + 1)) (lv' := [(4, .int (nI (n + 1))), (6, .int (1 : Int32)), (5, .int ((kl_joinT tr qn op q.toNatClampNeg r.toNatClampNeg n) (4096 * q.toNatClampNeg + n))), (0, .ref h), (1, .int op), (2, .int q), (3, .int r)]) hx hb dX1_join_182 hl (k := 6) rfl (oo_inc n 1) (by decide) rfl (fun ls hl => ?_)
                          refine lv_goto (tgt := 52) hx hb dX1_join_185 (by decide) ?_
                          have hl : lv_has ls 7 [(0, .ref h), (1, .int op), (2, .int q), (3, .int r), (4, .int (nI (n + 1)))] := lv_sub hl [3, 4, 5, 6, 0] rfl
                          have hP := Eq.mp (congrArg (fun z9 => va_P D vwCl (mW cI cZ h b1 b2 b3 u d z9 (nI fn) (nI qn) sd (0 : Int32)) H) (show upd (kl_joinT tr qn op q.toNatClampNeg r.toNatClampNeg n) (4096 * qn + n) (0 : Int32) = kl_joinT tr qn op q.toNatClampNeg r.toNatClampNeg (n + 1) from (by simp only [kl_joinT, kl_jv]; rw [if_neg c_71, if_neg c_81, if_pos c_107, if_neg c_112, if_pos c_117]))) hP
                          have hP : va_P D vwCl (mW cI cZ h b1 b2 b3 u d (kl_joinT tr qn op q.toNatClampNeg r.toNatClampNeg (n + 1)) (nI fn) (nI qn) sd (0 : Int32)) H := hP
                          have hD : va_D _ (mW cI cZ h b1 b2 b3 u d (kl_joinT tr qn op q.toNatClampNeg r.toNatClampNeg (n + 1)) (nI fn) (nI qn) sd (0 : Int32)) := oo_Dre hD (oo_fc (oo_fc (oo_fc (oo_fc rfl))))
                          exact ihn _ _ _ ⟨hP, hD, hS, hl⟩
                        · refine lv_iconst (v := (1 : Int32)) hx hb dX1_join_120 (by decide) ?_
                          refine lv_goto (tgt := 181) hx hb dX1_join_121 (by decide) ?_
                          refine va_zast hx hb hK hP hD hS 3 1 rfl rfl (vp_in_nI (by omega) (by omega)) dX1_join_181 (fun H locs hP hD hS => ?_)
                          have hP : va_P D vwCl (mW cI cZ h b1 b2 b3 u d (upd (kl_joinT tr qn op q.toNatClampNeg r.toNatClampNeg n) (nI (4096 * qn + n)).toNatClampNeg (vp_nar .boolean (1 : Int32))) (nI fn) (nI qn) sd (0 : Int32)) H := hP
                          have hD : va_D _ (mW cI cZ h b1 b2 b3 u d (upd (kl_joinT tr qn op q.toNatClampNeg r.toNatClampNeg n) (nI (4096 * qn + n)).toNatClampNeg (vp_nar .boolean (1 : Int32))) (nI fn) (nI qn) sd (0 : Int32)) := hD
                          have hP := Eq.mp (congrArg (fun z9 => va_P D vwCl (mW cI cZ h b1 b2 b3 u d z9 (nI fn) (nI qn) sd (0 : Int32)) H) (show upd (kl_joinT tr qn op q.toNatClampNeg r.toNatClampNeg n) (nI (4096 * qn + n)).toNatClampNeg (vp_nar .boolean (1 : Int32)) = upd (kl_joinT tr qn op q.toNatClampNeg r.toNatClampNeg n) (4096 * qn + n) (1 : Int32) from (by rw [nI_clamp (by omega), oo_vz1]))) hP
                          have hP : va_P D vwCl (mW cI cZ h b1 b2 b3 u d (upd (kl_joinT tr qn op q.toNatClampNeg r.toNatClampNeg n) (4096 * qn + n) (1 : Int32)) (nI fn) (nI qn) sd (0 : Int32)) H := hP
                          have hD : va_D _ (mW cI cZ h b1 b2 b3 u d (upd (kl_joinT tr qn op q.toNatClampNeg r.toNatClampNeg n) (4096 * qn + n) (1 : Int32)) (nI fn) (nI qn) sd (0 : Int32)) := oo_Dre hD (oo_fc (oo_fc (oo_fc (oo_fc rfl))))
                          refine lv_iinc (v := nI (n + 1)) (lv' := [(4, .int (nI (n + 1))), (6, .int (1 : Int32)), (5, .int ((kl_joinT tr qn op q.toNatClampNeg r.toNatClampNeg n) (4096 * q.toNatClampNeg + n))), (0, .ref h), (1, .int op), (2, .int q), (3, .int r)]) hx hb dX1_join_182 hl (k := 6) rfl (oo_inc n 1) (by decide) rfl (fun ls hl => ?_)
                          refine lv_goto (tgt := 52) hx hb dX1_join_185 (by decide) ?_
                          have hl : lv_has ls 7 [(0, .ref h), (1, .int op), (2, .int q), (3, .int r), (4, .int (nI (n + 1)))] := lv_sub hl [3, 4, 5, 6, 0] rfl
                          have hP := Eq.mp (congrArg (fun z9 => va_P D vwCl (mW cI cZ h b1 b2 b3 u d z9 (nI fn) (nI qn) sd (0 : Int32)) H) (show upd (kl_joinT tr qn op q.toNatClampNeg r.toNatClampNeg n) (4096 * qn + n) (1 : Int32) = kl_joinT tr qn op q.toNatClampNeg r.toNatClampNeg (n + 1) from (by simp only [kl_joinT, kl_jv]; rw [if_neg c_71, if_neg c_81, if_pos c_107, if_neg c_112, if_neg c_117]))) hP
                          have hP : va_P D vwCl (mW cI cZ h b1 b2 b3 u d (kl_joinT tr qn op q.toNatClampNeg r.toNatClampNeg (n + 1)) (nI fn) (nI qn) sd (0 : Int32)) H := hP
                          have hD : va_D _ (mW cI cZ h b1 b2 b3 u d (kl_joinT tr qn op q.toNatClampNeg r.toNatClampNeg (n + 1)) (nI fn) (nI qn) sd (0 : Int32)) := oo_Dre hD (oo_fc (oo_fc (oo_fc (oo_fc rfl))))
                          exact ihn _ _ _ ⟨hP, hD, hS, hl⟩
          · refine lv_bipush (v := (-3 : Int32)) hx hb dX1_join_46 (by decide) ?_
            have hP := Eq.mp (congrArg (fun z9 => va_P D vwCl (mW cI cZ h b1 b2 b3 u d tr (nI fn) z9 sd (0 : Int32)) H) (show nI qn = kvX1_join_qc qn op q r from (by unfold kvX1_join_qc; rw [if_neg c_6, if_neg c_11, if_neg c_19, if_pos c_24, if_pos c_43]))) hP
            have hP := Eq.mp (congrArg (fun z9 => va_P D vwCl (mW cI cZ h b1 b2 b3 u d z9 (nI fn) (kvX1_join_qc qn op q r) sd (0 : Int32)) H) (show tr = kvX1_join_tr tr qn op q r from (by unfold kvX1_join_tr; rw [if_neg c_6, if_neg c_11, if_neg c_19, if_pos c_24, if_pos c_43]))) hP
            have hP : va_P D vwCl (mW cI cZ h b1 b2 b3 u d (kvX1_join_tr tr qn op q r) (nI fn) (kvX1_join_qc qn op q r) sd (0 : Int32)) H := hP
            have hD : va_D _ (mW cI cZ h b1 b2 b3 u d (kvX1_join_tr tr qn op q r) (nI fn) (kvX1_join_qc qn op q r) sd (0 : Int32)) := oo_Dre hD (oo_fc (oo_fc (oo_fc (oo_fc rfl))))
            exact mu_reti hx hb hr hlocks hP hD hS (by unfold kvX1_join; rw [if_neg c_6, if_neg c_11, if_neg c_19, if_pos c_24, if_pos c_43]) dX1_join_48
        · refine lv_aload_n hx hb dX1_join_27 rfl (lv_at hl 0 rfl) ?_
          refine lv_iload_n hx hb dX1_join_28 rfl (lv_at hl 3 rfl) ?_
          refine ro_calli (va_runV (As := [.int r]) (rest := []) ⟨hx, hb, hml, hown, hts⟩ (kX1_isQuestion l D cI cZ h b1 b2 b3 u d tr fn qn sd (0 : Int32) r) (cwV 1 hts gX1_join_X1_isQuestion rfl rfl rfl ok_X1_isQuestion ⟨Nat.le_of_ble_eq_true rfl, Nat.le_of_ble_eq_true rfl⟩) ⟨oo_blind, va_recv hK hP (ci := 1) (q0 := 0) rfl rfl, oo_ps hP hK [0, 1, 2, 3] rfl [0, 1] rfl⟩ rfl rfl hl.1 rfl (lv_room (Nat.le_of_ble_eq_true rfl)) dX1_join_29 ⟨Nat.le_of_ble_eq_true rfl, Nat.le_of_ble_eq_true rfl⟩) hP hS (fun H locs hP hS => ?_)
          refine lv_if_ne (tgt := 37) hx hb dX1_join_32 (by decide) (fun c_32 => ?_) (fun c_32 => ?_)
          · have hr9 : ¬ 3 ≤ op → ¬ kvX1_isQuestion qn r = 0 := fun _ => c_32
            refine lv_aload_n hx hb dX1_join_37 rfl (lv_at hl 0 rfl) ?_
            refine va_get (D := D) (ci := 1) (v := .int (nI qn)) (C := RX1) (T := TX1) (N := 7) hx hb hts hin hown hK hP 0 rfl rfl 4 (by decide) (hts (.fieldLink RX1 25 "OddsSamplingModel" "questions" "I") (by decide +kernel)) (fun _ h9 => h9) rfl dX1_join_38 ?_
            refine lv_bipush (v := nI 40) hx hb dX1_join_41 (by decide) ?_
            refine lv_icmp_ne (tgt := 49) hx hb dX1_join_43 (by decide) (fun c_43 => ?_) (fun c_43 => ?_)
            · have hlt40 : qn < 40 := oo_ne40 hqn c_43
              obtain ⟨hq1, hq2⟩ := oo_isQ hqn c_19
              refine lv_iconst (v := nI 0) hx hb dX1_join_49 (by decide) ?_
              refine lv_istore (lv' := [(4, .int (nI 0)), (0, .ref h), (1, .int op), (2, .int q), (3, .int r)]) hx hb dX1_join_50 hl (by decide) rfl (fun ls hl => ?_)
              have hl : lv_has ls 7 [(0, .ref h), (1, .int op), (2, .int q), (3, .int r), (4, .int (nI 0))] := lv_sub hl [1, 2, 3, 4, 0] rfl
              have hP := Eq.mp (congrArg (fun z9 => va_P D vwCl (mW cI cZ h b1 b2 b3 u d z9 (nI fn) (nI qn) sd (0 : Int32)) H) (show tr = kl_joinT tr qn op q.toNatClampNeg r.toNatClampNeg 0 from (by first | (simp only [kl_joinT]; done) | (simp only [kl_joinT]; rw [if_neg c_6, if_neg c_11, if_neg c_19, if_neg c_24, if_neg c_32, if_neg c_43])))) hP
              have hP : va_P D vwCl (mW cI cZ h b1 b2 b3 u d (kl_joinT tr qn op q.toNatClampNeg r.toNatClampNeg 0) (nI fn) (nI qn) sd (0 : Int32)) H := hP
              have hD : va_D _ (mW cI cZ h b1 b2 b3 u d (kl_joinT tr qn op q.toNatClampNeg r.toNatClampNeg 0) (nI fn) (nI qn) sd (0 : Int32)) := oo_Dre hD (oo_fc (oo_fc (oo_fc (oo_fc rfl))))
              refine oo_loop (N := 4096) (fun n H locs ls => va_P D vwCl (mW cI cZ h b1 b2 b3 u d (kl_joinT tr qn op q.toNatClampNeg r.toNatClampNeg n) (nI fn) (nI qn) sd (0 : Int32)) H ∧ va_D (va_A (mW cI cZ h b1 b2 b3 u d tr (nI fn) (nI qn) sd th) s.heap.size) (mW cI cZ h b1 b2 b3 u d (kl_joinT tr qn op q.toNatClampNeg r.toNatClampNeg n) (nI fn) (nI qn) sd (0 : Int32)) ∧ va_S (va_A (mW cI cZ h b1 b2 b3 u d tr (nI fn) (nI qn) sd th) s.heap.size) s.heap H locs ∧ lv_has ls 7 [(0, .ref h), (1, .int op), (2, .int q), (3, .int r), (4, .int (nI n))]) ?_ ?_ 0 (Nat.zero_le _) ⟨hP, hD, hS, hl⟩
              · intro H locs ls hI
                obtain ⟨hP, hD, hS, hl⟩ := hI
                refine lv_iload hx hb dX1_join_52 (lv_at hl 4 rfl) ?_
                refine lv_sipush (v := nI 4096) hx hb dX1_join_54 (by decide) ?_
                refine lv_icmp_ge (tgt := 188) hx hb dX1_join_57 (by decide) (fun c_57 => ?_) (fun c_57 => ?_)
                · refine lv_aload_n hx hb dX1_join_188 rfl (lv_at hl 0 rfl) ?_
                  refine lv_dup hx hb dX1_join_189 rfl ?_
                  refine va_get (D := D) (ci := 1) (v := .int (nI qn)) (C := RX1) (T := TX1) (N := 7) hx hb hts hin hown hK hP 0 rfl rfl 4 (by decide) (hts (.fieldLink RX1 25 "OddsSamplingModel" "questions" "I") (by decide +kernel)) (fun _ h9 => h9) rfl dX1_join_190 ?_
                  refine lv_iconst (v := (1 : Int32)) hx hb dX1_join_193 (by decide) ?_
                  refine lv_iadd hx hb dX1_join_194 ?_
                  refine oo_topI (y := nI (qn + 1)) (nI_1 qn) ?_
                  refine va_put (D := D) (ci := 1) (v := .int (nI (qn + 1))) (ty := .int) (C := RX1) (T := TX1) (N := 7) hx hb hts hin tyX1 tyX1_ok nmX1 hown hK hP hD hS 0 rfl rfl 4 (by decide) (hts (.fieldLink RX1 25 "OddsSamplingModel" "questions" "I") (by decide +kernel)) (fun _ h9 => h9) rfl (by decide +kernel) rfl rfl (Nat.le_of_ble_eq_true rfl) dX1_join_195 (fun H locs hP hD hS => ?_)
                  have hP : va_P D vwCl (mW cI cZ h b1 b2 b3 u d (kl_joinT tr qn op q.toNatClampNeg r.toNatClampNeg 4096) (nI fn) (nI (qn + 1)) sd (0 : Int32)) H := hP
                  have hD : va_D _ (mW cI cZ h b1 b2 b3 u d (kl_joinT tr qn op q.toNatClampNeg r.toNatClampNeg 4096) (nI fn) (nI (qn + 1)) sd (0 : Int32)) := hD
                  refine lv_aload_n hx hb dX1_join_198 rfl (lv_at hl 0 rfl) ?_
                  refine va_get (D := D) (ci := 1) (v := .int (nI (qn + 1))) (C := RX1) (T := TX1) (N := 7) hx hb hts hin hown hK hP 0 rfl rfl 4 (by decide) (hts (.fieldLink RX1 25 "OddsSamplingModel" "questions" "I") (by decide +kernel)) (fun _ h9 => h9) rfl dX1_join_199 ?_
                  refine lv_iconst (v := (1 : Int32)) hx hb dX1_join_202 (by decide) ?_
                  refine lv_isub hx hb dX1_join_203 ?_
                  refine oo_topI (y := nI qn) (nI_pred qn) ?_
                  have hP := Eq.mp (congrArg (fun z9 => va_P D vwCl (mW cI cZ h b1 b2 b3 u d (kl_joinT tr qn op q.toNatClampNeg r.toNatClampNeg 4096) (nI fn) z9 sd (0 : Int32)) H) (show nI (qn + 1) = kvX1_join_qc qn op q r from (by unfold kvX1_join_qc; rw [if_neg c_6, if_neg c_11, if_neg c_19, if_neg c_24, if_neg c_32, if_neg c_43]))) hP
                  have hP := Eq.mp (congrArg (fun z9 => va_P D vwCl (mW cI cZ h b1 b2 b3 u d z9 (nI fn) (kvX1_join_qc qn op q r) sd (0 : Int32)) H) (show kl_joinT tr qn op q.toNatClampNeg r.toNatClampNeg 4096 = kvX1_join_tr tr qn op q r from (by unfold kvX1_join_tr; rw [if_neg c_6, if_neg c_11, if_neg c_19, if_neg c_24, if_neg c_32, if_neg c_43]))) hP
                  have hP : va_P D vwCl (mW cI cZ h b1 b2 b3 u d (kvX1_join_tr tr qn op q r) (nI fn) (kvX1_join_qc qn op q r) sd (0 : Int32)) H := hP
                  have hD : va_D _ (mW cI cZ h b1 b2 b3 u d (kvX1_join_tr tr qn op q r) (nI fn) (kvX1_join_qc qn op q r) sd (0 : Int32)) := oo_Dre hD (oo_fc (oo_fc (oo_fc (oo_fc rfl))))
                  exact mu_reti hx hb hr hlocks hP hD hS (by unfold kvX1_join; rw [if_neg c_6, if_neg c_11, if_neg c_19, if_neg c_24, if_neg c_32, if_neg c_43]) dX1_join_204
                · exact absurd (nI_le (Nat.le_refl _) (by omega)) c_57
              · intro n hltn ihn H locs ls hI
                obtain ⟨hP, hD, hS, hl⟩ := hI
                refine lv_iload hx hb dX1_join_52 (lv_at hl 4 rfl) ?_
                refine lv_sipush (v := nI 4096) hx hb dX1_join_54 (by decide) ?_
                refine lv_icmp_ge (tgt := 188) hx hb dX1_join_57 (by decide) (fun c_57 => ?_) (fun c_57 => ?_)
                · exact absurd c_57 (nI_ge hltn (by omega))
                · refine lv_aload_n hx hb dX1_join_60 rfl (lv_at hl 0 rfl) ?_
                  refine lv_iload_n hx hb dX1_join_61 rfl (lv_at hl 2 rfl) ?_
                  refine oo_topI (y := nI q.toNatClampNeg) hq1 ?_
                  refine lv_iload hx hb dX1_join_62 (lv_at hl 4 rfl) ?_
                  refine ro_calli (va_runV (As := [.int (nI q.toNatClampNeg), .int (nI n)]) (rest := []) ⟨hx, hb, hml, hown, hts⟩ (kX1_isTrue l D cI cZ h b1 b2 b3 u d (kl_joinT tr qn op q.toNatClampNeg r.toNatClampNeg n) fn qn sd (0 : Int32) q.toNatClampNeg n (by omega) (by omega) (kl_joinT_01 h01 n)) (cwV 2 hts gX1_join_X1_isTrue rfl rfl rfl ok_X1_isTrue ⟨Nat.le_of_ble_eq_true rfl, Nat.le_of_ble_eq_true rfl⟩) ⟨oo_blind, va_recv hK hP (ci := 1) (q0 := 0) rfl rfl, oo_ps hP hK [0, 1, 2, 3] rfl [0, 1] rfl⟩ rfl rfl hl.1 rfl (lv_room (Nat.le_of_ble_eq_true rfl)) dX1_join_64 ⟨Nat.le_of_ble_eq_true rfl, Nat.le_of_ble_eq_true rfl⟩) hP hS (fun H locs hP hS => ?_)
                  refine lv_istore (lv' := [(5, .int ((kl_joinT tr qn op q.toNatClampNeg r.toNatClampNeg n) (4096 * q.toNatClampNeg + n))), (0, .ref h), (1, .int op), (2, .int q), (3, .int r), (4, .int (nI n))]) hx hb dX1_join_67 hl (by decide) rfl (fun ls hl => ?_)
                  refine lv_iload_n hx hb dX1_join_69 rfl (lv_at hl 2 rfl) ?_
                  refine lv_iconst (v := (3 : Int32)) hx hb dX1_join_70 (by decide) ?_
                  refine lv_icmp_ge (tgt := 88) hx hb dX1_join_71 (by decide) (fun c_71 => ?_) (fun c_71 => ?_)
                  · refine lv_iconst (v := (0 : Int32)) hx hb dX1_join_88 (by decide) ?_
                    refine lv_istore (lv' := [(6, .int (0 : Int32)), (5, .int ((kl_joinT tr qn op q.toNatClampNeg r.toNatClampNeg n) (4096 * q.toNatClampNeg + n))), (0, .ref h), (1, .int op), (2, .int q), (3, .int r), (4, .int (nI n))]) hx hb dX1_join_89 hl (by decide) rfl (fun ls hl => ?_)
                    refine lv_aload_n hx hb dX1_join_91 rfl (lv_at hl 2 rfl) ?_
                    refine va_get (D := D) (ci := 1) (v := .ref b3) (C := RX1) (T := TX1) (N := 7) hx hb hts hin hown hK hP 0 rfl rfl 3 (by decide) (hts (.fieldLink RX1 17 "OddsSamplingModel" "truths" "[Z") (by decide +kernel)) (fun _ h9 => h9) rfl dX1_join_92 ?_
                    refine lv_sipush (v := nI 4096) hx hb dX1_join_95 (by decide) ?_
                    refine lv_aload_n hx hb dX1_join_98 rfl (lv_at hl 2 rfl) ?_
                    refine va_get (D := D) (ci := 1) (v := .int (nI qn)) (C := RX1) (T := TX1) (N := 7) hx hb hts hin hown hK hP 0 rfl rfl 4 (by decide) (hts (.fieldLink RX1 25 "OddsSamplingModel" "questions" "I") (by decide +kernel)) (fun _ h9 => h9) rfl dX1_join_99 ?_
                    refine lv_imul hx hb dX1_join_102 ?_
                    refine lv_iload hx hb dX1_join_103 (lv_at hl 6 rfl) ?_
                    refine lv_iadd hx hb dX1_join_105 ?_
                    refine oo_topI (y := nI (4096 * qn + n)) (by rw [pk_mul, nI_add]) ?_
                    refine lv_iload_n hx hb dX1_join_106 rfl (lv_at hl 3 rfl) ?_
                    refine lv_if_ne (tgt := 128) hx hb dX1_join_107 (by decide) (fun c_107 => ?_) (fun c_107 => ?_)
                    · refine lv_iload_n hx hb dX1_join_128 rfl (lv_at hl 3 rfl) ?_
                      refine lv_iconst (v := (1 : Int32)) hx hb dX1_join_129 (by decide) ?_
                      refine lv_icmp_ne (tgt := 151) hx hb dX1_join_130 (by decide) (fun c_130 => ?_) (fun c_130 => ?_)
                      · refine lv_iload_n hx hb dX1_join_151 rfl (lv_at hl 3 rfl) ?_
                        refine lv_iconst (v := (2 : Int32)) hx hb dX1_join_152 (by decide) ?_
                        refine lv_icmp_ne (tgt := 171) hx hb dX1_join_153 (by decide) (fun c_153 => ?_) (fun c_153 => ?_)
                        · refine lv_iload hx hb dX1_join_171 (lv_at hl 1 rfl) ?_
                          refine lv_if_ne (tgt := 180) hx hb dX1_join_173 (by decide) (fun c_173 => ?_) (fun c_173 => ?_)
                          · refine lv_iconst (v := (0 : Int32)) hx hb dX1_join_180 (by decide) ?_
                            refine va_zast hx hb hK hP hD hS 3 1 rfl rfl (vp_in_nI (by omega) (by omega)) dX1_join_181 (fun H locs hP hD hS => ?_)
                            have hP : va_P D vwCl (mW cI cZ h b1 b2 b3 u d (upd (kl_joinT tr qn op q.toNatClampNeg r.toNatClampNeg n) (nI (4096 * qn + n)).toNatClampNeg (vp_nar .boolean (0 : Int32))) (nI fn) (nI qn) sd (0 : Int32)) H := hP
                            have hD : va_D _ (mW cI cZ h b1 b2 b3 u d (upd (kl_joinT tr qn op q.toNatClampNeg r.toNatClampNeg n) (nI (4096 * qn + n)).toNatClampNeg (vp_nar .boolean (0 : Int32))) (nI fn) (nI qn) sd (0 : Int32)) := hD
                            have hP := Eq.mp (congrArg (fun z9 => va_P D vwCl (mW cI cZ h b1 b2 b3 u d z9 (nI fn) (nI qn) sd (0 : Int32)) H) (show upd (kl_joinT tr qn op q.toNatClampNeg r.toNatClampNeg n) (nI (4096 * qn + n)).toNatClampNeg (vp_nar .boolean (0 : Int32)) = upd (kl_joinT tr qn op q.toNatClampNeg r.toNatClampNeg n) (4096 * qn + n) (0 : Int32) from (by rw [nI_clamp (by omega), oo_vz0]))) hP
                            have hP : va_P D vwCl (mW cI cZ h b1 b2 b3 u d (upd (kl_joinT tr qn op q.toNatClampNeg r.toNatClampNeg n) (4096 * qn + n) (0 : Int32)) (nI fn) (nI qn) sd (0 : Int32)) H := hP
                            have hD : va_D _ (mW cI cZ h b1 b2 b3 u d (upd (kl_joinT tr qn op q.toNatClampNeg r.toNatClampNeg n) (4096 * qn + n) (0 : Int32)) (nI fn) (nI qn) sd (0 : Int32)) := oo_Dre hD (oo_fc (oo_fc (oo_fc (oo_fc rfl))))
                            refine lv_iinc (v := nI (n + 1)) (lv' := [(4, .int (nI (n + 1))), (6, .int (0 : Int32)), (5, .int ((kl_joinT tr qn op q.toNatClampNeg r.toNatClampNeg n) (4096 * q.toNatClampNeg + n))), (0, .ref h), (1, .int op), (2, .int q), (3, .int r)]) hx hb dX1_join_182 hl (k := 6) rfl (oo_inc n 1) (by decide) rfl (fun ls hl => ?_)
                            refine lv_goto (tgt := 52) hx hb dX1_join_185 (by decide) ?_
                            have hl : lv_has ls 7 [(0, .ref h), (1, .int op), (2, .int q), (3, .int r), (4, .int (nI (n + 1)))] := lv_sub hl [3, 4, 5, 6, 0] rfl
                            have hP := Eq.mp (congrArg (fun z9 => va_P D vwCl (mW cI cZ h b1 b2 b3 u d z9 (nI fn) (nI qn) sd (0 : Int32)) H) (show upd (kl_joinT tr qn op q.toNatClampNeg r.toNatClampNeg n) (4096 * qn + n) (0 : Int32) = kl_joinT tr qn op q.toNatClampNeg r.toNatClampNeg (n + 1) from (by simp only [kl_joinT, kl_jv]; rw [if_pos c_71, if_neg c_107, if_neg c_130, if_neg c_153, if_neg c_173]))) hP
                            have hP : va_P D vwCl (mW cI cZ h b1 b2 b3 u d (kl_joinT tr qn op q.toNatClampNeg r.toNatClampNeg (n + 1)) (nI fn) (nI qn) sd (0 : Int32)) H := hP
                            have hD : va_D _ (mW cI cZ h b1 b2 b3 u d (kl_joinT tr qn op q.toNatClampNeg r.toNatClampNeg (n + 1)) (nI fn) (nI qn) sd (0 : Int32)) := oo_Dre hD (oo_fc (oo_fc (oo_fc (oo_fc rfl))))
                            exact ihn _ _ _ ⟨hP, hD, hS, hl⟩
                          · refine lv_iconst (v := (1 : Int32)) hx hb dX1_join_176 (by decide) ?_
                            refine lv_goto (tgt := 181) hx hb dX1_join_177 (by decide) ?_
                            refine va_zast hx hb hK hP hD hS 3 1 rfl rfl (vp_in_nI (by omega) (by omega)) dX1_join_181 (fun H locs hP hD hS => ?_)
                            have hP : va_P D vwCl (mW cI cZ h b1 b2 b3 u d (upd (kl_joinT tr qn op q.toNatClampNeg r.toNatClampNeg n) (nI (4096 * qn + n)).toNatClampNeg (vp_nar .boolean (1 : Int32))) (nI fn) (nI qn) sd (0 : Int32)) H := hP
                            have hD : va_D _ (mW cI cZ h b1 b2 b3 u d (upd (kl_joinT tr qn op q.toNatClampNeg r.toNatClampNeg n) (nI (4096 * qn + n)).toNatClampNeg (vp_nar .boolean (1 : Int32))) (nI fn) (nI qn) sd (0 : Int32)) := hD
                            have hP := Eq.mp (congrArg (fun z9 => va_P D vwCl (mW cI cZ h b1 b2 b3 u d z9 (nI fn) (nI qn) sd (0 : Int32)) H) (show upd (kl_joinT tr qn op q.toNatClampNeg r.toNatClampNeg n) (nI (4096 * qn + n)).toNatClampNeg (vp_nar .boolean (1 : Int32)) = upd (kl_joinT tr qn op q.toNatClampNeg r.toNatClampNeg n) (4096 * qn + n) (1 : Int32) from (by rw [nI_clamp (by omega), oo_vz1]))) hP
                            have hP : va_P D vwCl (mW cI cZ h b1 b2 b3 u d (upd (kl_joinT tr qn op q.toNatClampNeg r.toNatClampNeg n) (4096 * qn + n) (1 : Int32)) (nI fn) (nI qn) sd (0 : Int32)) H := hP
                            have hD : va_D _ (mW cI cZ h b1 b2 b3 u d (upd (kl_joinT tr qn op q.toNatClampNeg r.toNatClampNeg n) (4096 * qn + n) (1 : Int32)) (nI fn) (nI qn) sd (0 : Int32)) := oo_Dre hD (oo_fc (oo_fc (oo_fc (oo_fc rfl))))
                            refine lv_iinc (v := nI (n + 1)) (lv' := [(4, .int (nI (n + 1))), (6, .int (0 : Int32)), (5, .int ((kl_joinT tr qn op q.toNatClampNeg r.toNatClampNeg n) (4096 * q.toNatClampNeg + n))), (0, .ref h), (1, .int op), (2, .int q), (3, .int r)]) hx hb dX1_join_182 hl (k := 6) rfl (oo_inc n 1) (by decide) rfl (fun ls hl => ?_)
                            refine lv_goto (tgt := 52) hx hb dX1_join_185 (by decide) ?_
                            have hl : lv_has ls 7 [(0, .ref h), (1, .int op), (2, .int q), (3, .int r), (4, .int (nI (n + 1)))] := lv_sub hl [3, 4, 5, 6, 0] rfl
                            have hP := Eq.mp (congrArg (fun z9 => va_P D vwCl (mW cI cZ h b1 b2 b3 u d z9 (nI fn) (nI qn) sd (0 : Int32)) H) (show upd (kl_joinT tr qn op q.toNatClampNeg r.toNatClampNeg n) (4096 * qn + n) (1 : Int32) = kl_joinT tr qn op q.toNatClampNeg r.toNatClampNeg (n + 1) from (by simp only [kl_joinT, kl_jv]; rw [if_pos c_71, if_neg c_107, if_neg c_130, if_neg c_153, if_pos c_173]))) hP
                            have hP : va_P D vwCl (mW cI cZ h b1 b2 b3 u d (kl_joinT tr qn op q.toNatClampNeg r.toNatClampNeg (n + 1)) (nI fn) (nI qn) sd (0 : Int32)) H := hP
                            have hD : va_D _ (mW cI cZ h b1 b2 b3 u d (kl_joinT tr qn op q.toNatClampNeg r.toNatClampNeg (n + 1)) (nI fn) (nI qn) sd (0 : Int32)) := oo_Dre hD (oo_fc (oo_fc (oo_fc (oo_fc rfl))))
                            exact ihn _ _ _ ⟨hP, hD, hS, hl⟩
                        · refine lv_iload hx hb dX1_join_156 (lv_at hl 1 rfl) ?_
                          refine lv_iload hx hb dX1_join_158 (lv_at hl 0 rfl) ?_
                          refine lv_icmp_eq (tgt := 167) hx hb dX1_join_160 (by decide) (fun c_160 => ?_) (fun c_160 => ?_)
                          · refine lv_iconst (v := (0 : Int32)) hx hb dX1_join_167 (by decide) ?_
                            refine lv_goto (tgt := 181) hx hb dX1_join_168 (by decide) ?_
                            refine va_zast hx hb hK hP hD hS 3 1 rfl rfl (vp_in_nI (by omega) (by omega)) dX1_join_181 (fun H locs hP hD hS => ?_)
                            have hP : va_P D vwCl (mW cI cZ h b1 b2 b3 u d (upd (kl_joinT tr qn op q.toNatClampNeg r.toNatClampNeg n) (nI (4096 * qn + n)).toNatClampNeg (vp_nar .boolean (0 : Int32))) (nI fn) (nI qn) sd (0 : Int32)) H := hP
                            have hD : va_D _ (mW cI cZ h b1 b2 b3 u d (upd (kl_joinT tr qn op q.toNatClampNeg r.toNatClampNeg n) (nI (4096 * qn + n)).toNatClampNeg (vp_nar .boolean (0 : Int32))) (nI fn) (nI qn) sd (0 : Int32)) := hD
                            have hP := Eq.mp (congrArg (fun z9 => va_P D vwCl (mW cI cZ h b1 b2 b3 u d z9 (nI fn) (nI qn) sd (0 : Int32)) H) (show upd (kl_joinT tr qn op q.toNatClampNeg r.toNatClampNeg n) (nI (4096 * qn + n)).toNatClampNeg (vp_nar .boolean (0 : Int32)) = upd (kl_joinT tr qn op q.toNatClampNeg r.toNatClampNeg n) (4096 * qn + n) (0 : Int32) from (by rw [nI_clamp (by omega), oo_vz0]))) hP
                            have hP : va_P D vwCl (mW cI cZ h b1 b2 b3 u d (upd (kl_joinT tr qn op q.toNatClampNeg r.toNatClampNeg n) (4096 * qn + n) (0 : Int32)) (nI fn) (nI qn) sd (0 : Int32)) H := hP
                            have hD : va_D _ (mW cI cZ h b1 b2 b3 u d (upd (kl_joinT tr qn op q.toNatClampNeg r.toNatClampNeg n) (4096 * qn + n) (0 : Int32)) (nI fn) (nI qn) sd (0 : Int32)) := oo_Dre hD (oo_fc (oo_fc (oo_fc (oo_fc rfl))))
                            refine lv_iinc (v := nI (n + 1)) (lv' := [(4, .int (nI (n + 1))), (6, .int (0 : Int32)), (5, .int ((kl_joinT tr qn op q.toNatClampNeg r.toNatClampNeg n) (4096 * q.toNatClampNeg + n))), (0, .ref h), (1, .int op), (2, .int q), (3, .int r)]) hx hb dX1_join_182 hl (k := 6) rfl (oo_inc n 1) (by decide) rfl (fun ls hl => ?_)
                            refine lv_goto (tgt := 52) hx hb dX1_join_185 (by decide) ?_
                            have hl : lv_has ls 7 [(0, .ref h), (1, .int op), (2, .int q), (3, .int r), (4, .int (nI (n + 1)))] := lv_sub hl [3, 4, 5, 6, 0] rfl
                            have hP := Eq.mp (congrArg (fun z9 => va_P D vwCl (mW cI cZ h b1 b2 b3 u d z9 (nI fn) (nI qn) sd (0 : Int32)) H) (show upd (kl_joinT tr qn op q.toNatClampNeg r.toNatClampNeg n) (4096 * qn + n) (0 : Int32) = kl_joinT tr qn op q.toNatClampNeg r.toNatClampNeg (n + 1) from (by simp only [kl_joinT, kl_jv]; rw [if_pos c_71, if_neg c_107, if_neg c_130, if_pos c_153, if_pos c_160]))) hP
                            have hP : va_P D vwCl (mW cI cZ h b1 b2 b3 u d (kl_joinT tr qn op q.toNatClampNeg r.toNatClampNeg (n + 1)) (nI fn) (nI qn) sd (0 : Int32)) H := hP
                            have hD : va_D _ (mW cI cZ h b1 b2 b3 u d (kl_joinT tr qn op q.toNatClampNeg r.toNatClampNeg (n + 1)) (nI fn) (nI qn) sd (0 : Int32)) := oo_Dre hD (oo_fc (oo_fc (oo_fc (oo_fc rfl))))
                            exact ihn _ _ _ ⟨hP, hD, hS, hl⟩
                          · refine lv_iconst (v := (1 : Int32)) hx hb dX1_join_163 (by decide) ?_
                            refine lv_goto (tgt := 181) hx hb dX1_join_164 (by decide) ?_
                            refine va_zast hx hb hK hP hD hS 3 1 rfl rfl (vp_in_nI (by omega) (by omega)) dX1_join_181 (fun H locs hP hD hS => ?_)
                            have hP : va_P D vwCl (mW cI cZ h b1 b2 b3 u d (upd (kl_joinT tr qn op q.toNatClampNeg r.toNatClampNeg n) (nI (4096 * qn + n)).toNatClampNeg (vp_nar .boolean (1 : Int32))) (nI fn) (nI qn) sd (0 : Int32)) H := hP
                            have hD : va_D _ (mW cI cZ h b1 b2 b3 u d (upd (kl_joinT tr qn op q.toNatClampNeg r.toNatClampNeg n) (nI (4096 * qn + n)).toNatClampNeg (vp_nar .boolean (1 : Int32))) (nI fn) (nI qn) sd (0 : Int32)) := hD
                            have hP := Eq.mp (congrArg (fun z9 => va_P D vwCl (mW cI cZ h b1 b2 b3 u d z9 (nI fn) (nI qn) sd (0 : Int32)) H) (show upd (kl_joinT tr qn op q.toNatClampNeg r.toNatClampNeg n) (nI (4096 * qn + n)).toNatClampNeg (vp_nar .boolean (1 : Int32)) = upd (kl_joinT tr qn op q.toNatClampNeg r.toNatClampNeg n) (4096 * qn + n) (1 : Int32) from (by rw [nI_clamp (by omega), oo_vz1]))) hP
                            have hP : va_P D vwCl (mW cI cZ h b1 b2 b3 u d (upd (kl_joinT tr qn op q.toNatClampNeg r.toNatClampNeg n) (4096 * qn + n) (1 : Int32)) (nI fn) (nI qn) sd (0 : Int32)) H := hP
                            have hD : va_D _ (mW cI cZ h b1 b2 b3 u d (upd (kl_joinT tr qn op q.toNatClampNeg r.toNatClampNeg n) (4096 * qn + n) (1 : Int32)) (nI fn) (nI qn) sd (0 : Int32)) := oo_Dre hD (oo_fc (oo_fc (oo_fc (oo_fc rfl))))
                            refine lv_iinc (v := nI (n + 1)) (lv' := [(4, .int (nI (n + 1))), (6, .int (0 : Int32)), (5, .int ((kl_joinT tr qn op q.toNatClampNeg r.toNatClampNeg n) (4096 * q.toNatClampNeg + n))), (0, .ref h), (1, .int op), (2, .int q), (3, .int r)]) hx hb dX1_join_182 hl (k := 6) rfl (oo_inc n 1) (by decide) rfl (fun ls hl => ?_)
                            refine lv_goto (tgt := 52) hx hb dX1_join_185 (by decide) ?_
                            have hl : lv_has ls 7 [(0, .ref h), (1, .int op), (2, .int q), (3, .int r), (4, .int (nI (n + 1)))] := lv_sub hl [3, 4, 5, 6, 0] rfl
                            have hP := Eq.mp (congrArg (fun z9 => va_P D vwCl (mW cI cZ h b1 b2 b3 u d z9 (nI fn) (nI qn) sd (0 : Int32)) H) (show upd (kl_joinT tr qn op q.toNatClampNeg r.toNatClampNeg n) (4096 * qn + n) (1 : Int32) = kl_joinT tr qn op q.toNatClampNeg r.toNatClampNeg (n + 1) from (by simp only [kl_joinT, kl_jv]; rw [if_pos c_71, if_neg c_107, if_neg c_130, if_pos c_153, if_neg c_160]))) hP
                            have hP : va_P D vwCl (mW cI cZ h b1 b2 b3 u d (kl_joinT tr qn op q.toNatClampNeg r.toNatClampNeg (n + 1)) (nI fn) (nI qn) sd (0 : Int32)) H := hP
                            have hD : va_D _ (mW cI cZ h b1 b2 b3 u d (kl_joinT tr qn op q.toNatClampNeg r.toNatClampNeg (n + 1)) (nI fn) (nI qn) sd (0 : Int32)) := oo_Dre hD (oo_fc (oo_fc (oo_fc (oo_fc rfl))))
                            exact ihn _ _ _ ⟨hP, hD, hS, hl⟩
                      · refine lv_iload hx hb dX1_join_133 (lv_at hl 1 rfl) ?_
                        refine lv_if_ne (tgt := 143) hx hb dX1_join_135 (by decide) (fun c_135 => ?_) (fun c_135 => ?_)
                        · refine lv_iconst (v := (1 : Int32)) hx hb dX1_join_143 (by decide) ?_
                          refine lv_goto (tgt := 181) hx hb dX1_join_144 (by decide) ?_
                          refine va_zast hx hb hK hP hD hS 3 1 rfl rfl (vp_in_nI (by omega) (by omega)) dX1_join_181 (fun H locs hP hD hS => ?_)
                          have hP : va_P D vwCl (mW cI cZ h b1 b2 b3 u d (upd (kl_joinT tr qn op q.toNatClampNeg r.toNatClampNeg n) (nI (4096 * qn + n)).toNatClampNeg (vp_nar .boolean (1 : Int32))) (nI fn) (nI qn) sd (0 : Int32)) H := hP
                          have hD : va_D _ (mW cI cZ h b1 b2 b3 u d (upd (kl_joinT tr qn op q.toNatClampNeg r.toNatClampNeg n) (nI (4096 * qn + n)).toNatClampNeg (vp_nar .boolean (1 : Int32))) (nI fn) (nI qn) sd (0 : Int32)) := hD
                          have hP := Eq.mp (congrArg (fun z9 => va_P D vwCl (mW cI cZ h b1 b2 b3 u d z9 (nI fn) (nI qn) sd (0 : Int32)) H) (show upd (kl_joinT tr qn op q.toNatClampNeg r.toNatClampNeg n) (nI (4096 * qn + n)).toNatClampNeg (vp_nar .boolean (1 : Int32)) = upd (kl_joinT tr qn op q.toNatClampNeg r.toNatClampNeg n) (4096 * qn + n) (1 : Int32) from (by rw [nI_clamp (by omega), oo_vz1]))) hP
                          have hP : va_P D vwCl (mW cI cZ h b1 b2 b3 u d (upd (kl_joinT tr qn op q.toNatClampNeg r.toNatClampNeg n) (4096 * qn + n) (1 : Int32)) (nI fn) (nI qn) sd (0 : Int32)) H := hP
                          have hD : va_D _ (mW cI cZ h b1 b2 b3 u d (upd (kl_joinT tr qn op q.toNatClampNeg r.toNatClampNeg n) (4096 * qn + n) (1 : Int32)) (nI fn) (nI qn) sd (0 : Int32)) := oo_Dre hD (oo_fc (oo_fc (oo_fc (oo_fc rfl))))
                          refine lv_iinc (v := nI (n + 1)) (lv' := [(4, .int (nI (n + 1))), (6, .int (0 : Int32)), (5, .int ((kl_joinT tr qn op q.toNatClampNeg r.toNatClampNeg n) (4096 * q.toNatClampNeg + n))), (0, .ref h), (1, .int op), (2, .int q), (3, .int r)]) hx hb dX1_join_182 hl (k := 6) rfl (oo_inc n 1) (by decide) rfl (fun ls hl => ?_)
                          refine lv_goto (tgt := 52) hx hb dX1_join_185 (by decide) ?_
                          have hl : lv_has ls 7 [(0, .ref h), (1, .int op), (2, .int q), (3, .int r), (4, .int (nI (n + 1)))] := lv_sub hl [3, 4, 5, 6, 0] rfl
                          have hP := Eq.mp (congrArg (fun z9 => va_P D vwCl (mW cI cZ h b1 b2 b3 u d z9 (nI fn) (nI qn) sd (0 : Int32)) H) (show upd (kl_joinT tr qn op q.toNatClampNeg r.toNatClampNeg n) (4096 * qn + n) (1 : Int32) = kl_joinT tr qn op q.toNatClampNeg r.toNatClampNeg (n + 1) from (by simp only [kl_joinT, kl_jv]; rw [if_pos c_71, if_neg c_107, if_pos c_130, if_neg c_135]))) hP
                          have hP : va_P D vwCl (mW cI cZ h b1 b2 b3 u d (kl_joinT tr qn op q.toNatClampNeg r.toNatClampNeg (n + 1)) (nI fn) (nI qn) sd (0 : Int32)) H := hP
                          have hD : va_D _ (mW cI cZ h b1 b2 b3 u d (kl_joinT tr qn op q.toNatClampNeg r.toNatClampNeg (n + 1)) (nI fn) (nI qn) sd (0 : Int32)) := oo_Dre hD (oo_fc (oo_fc (oo_fc (oo_fc rfl))))
                          exact ihn _ _ _ ⟨hP, hD, hS, hl⟩
                        · refine lv_iload hx hb dX1_join_138 (lv_at hl 0 rfl) ?_
                          refine lv_if_eq (tgt := 147) hx hb dX1_join_140 (by decide) (fun c_140 => ?_) (fun c_140 => ?_)
                          · refine lv_iconst (v := (0 : Int32)) hx hb dX1_join_147 (by decide) ?_
                            refine lv_goto (tgt := 181) hx hb dX1_join_148 (by decide) ?_
                            refine va_zast hx hb hK hP hD hS 3 1 rfl rfl (vp_in_nI (by omega) (by omega)) dX1_join_181 (fun H locs hP hD hS => ?_)
                            have hP : va_P D vwCl (mW cI cZ h b1 b2 b3 u d (upd (kl_joinT tr qn op q.toNatClampNeg r.toNatClampNeg n) (nI (4096 * qn + n)).toNatClampNeg (vp_nar .boolean (0 : Int32))) (nI fn) (nI qn) sd (0 : Int32)) H := hP
                            have hD : va_D _ (mW cI cZ h b1 b2 b3 u d (upd (kl_joinT tr qn op q.toNatClampNeg r.toNatClampNeg n) (nI (4096 * qn + n)).toNatClampNeg (vp_nar .boolean (0 : Int32))) (nI fn) (nI qn) sd (0 : Int32)) := hD
                            have hP := Eq.mp (congrArg (fun z9 => va_P D vwCl (mW cI cZ h b1 b2 b3 u d z9 (nI fn) (nI qn) sd (0 : Int32)) H) (show upd (kl_joinT tr qn op q.toNatClampNeg r.toNatClampNeg n) (nI (4096 * qn + n)).toNatClampNeg (vp_nar .boolean (0 : Int32)) = upd (kl_joinT tr qn op q.toNatClampNeg r.toNatClampNeg n) (4096 * qn + n) (0 : Int32) from (by rw [nI_clamp (by omega), oo_vz0]))) hP
                            have hP : va_P D vwCl (mW cI cZ h b1 b2 b3 u d (upd (kl_joinT tr qn op q.toNatClampNeg r.toNatClampNeg n) (4096 * qn + n) (0 : Int32)) (nI fn) (nI qn) sd (0 : Int32)) H := hP
                            have hD : va_D _ (mW cI cZ h b1 b2 b3 u d (upd (kl_joinT tr qn op q.toNatClampNeg r.toNatClampNeg n) (4096 * qn + n) (0 : Int32)) (nI fn) (nI qn) sd (0 : Int32)) := oo_Dre hD (oo_fc (oo_fc (oo_fc (oo_fc rfl))))
                            refine lv_iinc (v := nI (n + 1)) (lv' := [(4, .int (nI (n + 1))), (6, .int (0 : Int32)), (5, .int ((kl_joinT tr qn op q.toNatClampNeg r.toNatClampNeg n) (4096 * q.toNatClampNeg + n))), (0, .ref h), (1, .int op), (2, .int q), (3, .int r)]) hx hb dX1_join_182 hl (k := 6) rfl (oo_inc n 1) (by decide) rfl (fun ls hl => ?_)
                            refine lv_goto (tgt := 52) hx hb dX1_join_185 (by decide) ?_
                            have hl : lv_has ls 7 [(0, .ref h), (1, .int op), (2, .int q), (3, .int r), (4, .int (nI (n + 1)))] := lv_sub hl [3, 4, 5, 6, 0] rfl
                            have hP := Eq.mp (congrArg (fun z9 => va_P D vwCl (mW cI cZ h b1 b2 b3 u d z9 (nI fn) (nI qn) sd (0 : Int32)) H) (show upd (kl_joinT tr qn op q.toNatClampNeg r.toNatClampNeg n) (4096 * qn + n) (0 : Int32) = kl_joinT tr qn op q.toNatClampNeg r.toNatClampNeg (n + 1) from (by simp only [kl_joinT, kl_jv]; rw [if_pos c_71, if_neg c_107, if_pos c_130, if_pos c_135, if_pos c_140]))) hP
                            have hP : va_P D vwCl (mW cI cZ h b1 b2 b3 u d (kl_joinT tr qn op q.toNatClampNeg r.toNatClampNeg (n + 1)) (nI fn) (nI qn) sd (0 : Int32)) H := hP
                            have hD : va_D _ (mW cI cZ h b1 b2 b3 u d (kl_joinT tr qn op q.toNatClampNeg r.toNatClampNeg (n + 1)) (nI fn) (nI qn) sd (0 : Int32)) := oo_Dre hD (oo_fc (oo_fc (oo_fc (oo_fc rfl))))
                            exact ihn _ _ _ ⟨hP, hD, hS, hl⟩
                          · refine lv_iconst (v := (1 : Int32)) hx hb dX1_join_143 (by decide) ?_
                            refine lv_goto (tgt := 181) hx hb dX1_join_144 (by decide) ?_
                            refine va_zast hx hb hK hP hD hS 3 1 rfl rfl (vp_in_nI (by omega) (by omega)) dX1_join_181 (fun H locs hP hD hS => ?_)
                            have hP : va_P D vwCl (mW cI cZ h b1 b2 b3 u d (upd (kl_joinT tr qn op q.toNatClampNeg r.toNatClampNeg n) (nI (4096 * qn + n)).toNatClampNeg (vp_nar .boolean (1 : Int32))) (nI fn) (nI qn) sd (0 : Int32)) H := hP
                            have hD : va_D _ (mW cI cZ h b1 b2 b3 u d (upd (kl_joinT tr qn op q.toNatClampNeg r.toNatClampNeg n) (nI (4096 * qn + n)).toNatClampNeg (vp_nar .boolean (1 : Int32))) (nI fn) (nI qn) sd (0 : Int32)) := hD
                            have hP := Eq.mp (congrArg (fun z9 => va_P D vwCl (mW cI cZ h b1 b2 b3 u d z9 (nI fn) (nI qn) sd (0 : Int32)) H) (show upd (kl_joinT tr qn op q.toNatClampNeg r.toNatClampNeg n) (nI (4096 * qn + n)).toNatClampNeg (vp_nar .boolean (1 : Int32)) = upd (kl_joinT tr qn op q.toNatClampNeg r.toNatClampNeg n) (4096 * qn + n) (1 : Int32) from (by rw [nI_clamp (by omega), oo_vz1]))) hP
                            have hP : va_P D vwCl (mW cI cZ h b1 b2 b3 u d (upd (kl_joinT tr qn op q.toNatClampNeg r.toNatClampNeg n) (4096 * qn + n) (1 : Int32)) (nI fn) (nI qn) sd (0 : Int32)) H := hP
                            have hD : va_D _ (mW cI cZ h b1 b2 b3 u d (upd (kl_joinT tr qn op q.toNatClampNeg r.toNatClampNeg n) (4096 * qn + n) (1 : Int32)) (nI fn) (nI qn) sd (0 : Int32)) := oo_Dre hD (oo_fc (oo_fc (oo_fc (oo_fc rfl))))
                            refine lv_iinc (v := nI (n + 1)) (lv' := [(4, .int (nI (n + 1))), (6, .int (0 : Int32)), (5, .int ((kl_joinT tr qn op q.toNatClampNeg r.toNatClampNeg n) (4096 * q.toNatClampNeg + n))), (0, .ref h), (1, .int op), (2, .int q), (3, .int r)]) hx hb dX1_join_182 hl (k := 6) rfl (oo_inc n 1) (by decide) rfl (fun ls hl => ?_)
                            refine lv_goto (tgt := 52) hx hb dX1_join_185 (by decide) ?_
                            have hl : lv_has ls 7 [(0, .ref h), (1, .int op), (2, .int q), (3, .int r), (4, .int (nI (n + 1)))] := lv_sub hl [3, 4, 5, 6, 0] rfl
                            have hP := Eq.mp (congrArg (fun z9 => va_P D vwCl (mW cI cZ h b1 b2 b3 u d z9 (nI fn) (nI qn) sd (0 : Int32)) H) (show upd (kl_joinT tr qn op q.toNatClampNeg r.toNatClampNeg n) (4096 * qn + n) (1 : Int32) = kl_joinT tr qn op q.toNatClampNeg r.toNatClampNeg (n + 1) from (by simp only [kl_joinT, kl_jv]; rw [if_pos c_71, if_neg c_107, if_pos c_130, if_pos c_135, if_neg c_140]))) hP
                            have hP : va_P D vwCl (mW cI cZ h b1 b2 b3 u d (kl_joinT tr qn op q.toNatClampNeg r.toNatClampNeg (n + 1)) (nI fn) (nI qn) sd (0 : Int32)) H := hP
                            have hD : va_D _ (mW cI cZ h b1 b2 b3 u d (kl_joinT tr qn op q.toNatClampNeg r.toNatClampNeg (n + 1)) (nI fn) (nI qn) sd (0 : Int32)) := oo_Dre hD (oo_fc (oo_fc (oo_fc (oo_fc rfl))))
                            exact ihn _ _ _ ⟨hP, hD, hS, hl⟩
                    · refine lv_iload hx hb dX1_join_110 (lv_at hl 1 rfl) ?_
                      refine lv_if_eq (tgt := 124) hx hb dX1_join_112 (by decide) (fun c_112 => ?_) (fun c_112 => ?_)
                      · refine lv_iconst (v := (0 : Int32)) hx hb dX1_join_124 (by decide) ?_
                        refine lv_goto (tgt := 181) hx hb dX1_join_125 (by decide) ?_
                        refine va_zast hx hb hK hP hD hS 3 1 rfl rfl (vp_in_nI (by omega) (by omega)) dX1_join_181 (fun H locs hP hD hS => ?_)
                        have hP : va_P D vwCl (mW cI cZ h b1 b2 b3 u d (upd (kl_joinT tr qn op q.toNatClampNeg r.toNatClampNeg n) (nI (4096 * qn + n)).toNatClampNeg (vp_nar .boolean (0 : Int32))) (nI fn) (nI qn) sd (0 : Int32)) H := hP
                        have hD : va_D _ (mW cI cZ h b1 b2 b3 u d (upd (kl_joinT tr qn op q.toNatClampNeg r.toNatClampNeg n) (nI (4096 * qn + n)).toNatClampNeg (vp_nar .boolean (0 : Int32))) (nI fn) (nI qn) sd (0 : Int32)) := hD
                        have hP := Eq.mp (congrArg (fun z9 => va_P D vwCl (mW cI cZ h b1 b2 b3 u d z9 (nI fn) (nI qn) sd (0 : Int32)) H) (show upd (kl_joinT tr qn op q.toNatClampNeg r.toNatClampNeg n) (nI (4096 * qn + n)).toNatClampNeg (vp_nar .boolean (0 : Int32)) = upd (kl_joinT tr qn op q.toNatClampNeg r.toNatClampNeg n) (4096 * qn + n) (0 : Int32) from (by rw [nI_clamp (by omega), oo_vz0]))) hP
                        have hP : va_P D vwCl (mW cI cZ h b1 b2 b3 u d (upd (kl_joinT tr qn op q.toNatClampNeg r.toNatClampNeg n) (4096 * qn + n) (0 : Int32)) (nI fn) (nI qn) sd (0 : Int32)) H := hP
                        have hD : va_D _ (mW cI cZ h b1 b2 b3 u d (upd (kl_joinT tr qn op q.toNatClampNeg r.toNatClampNeg n) (4096 * qn + n) (0 : Int32)) (nI fn) (nI qn) sd (0 : Int32)) := oo_Dre hD (oo_fc (oo_fc (oo_fc (oo_fc rfl))))
                        refine lv_iinc (v := nI (n + 1)) (lv' := [(4, .int (nI (n + 1))), (6, .int (0 : Int32)), (5, .int ((kl_joinT tr qn op q.toNatClampNeg r.toNatClampNeg n) (4096 * q.toNatClampNeg + n))), (0, .ref h), (1, .int op), (2, .int q), (3, .int r)]) hx hb dX1_join_182 hl (k := 6) rfl (oo_inc n 1) (by decide) rfl (fun ls hl => ?_)
                        refine lv_goto (tgt := 52) hx hb dX1_join_185 (by decide) ?_
                        have hl : lv_has ls 7 [(0, .ref h), (1, .int op), (2, .int q), (3, .int r), (4, .int (nI (n + 1)))] := lv_sub hl [3, 4, 5, 6, 0] rfl
                        have hP := Eq.mp (congrArg (fun z9 => va_P D vwCl (mW cI cZ h b1 b2 b3 u d z9 (nI fn) (nI qn) sd (0 : Int32)) H) (show upd (kl_joinT tr qn op q.toNatClampNeg r.toNatClampNeg n) (4096 * qn + n) (0 : Int32) = kl_joinT tr qn op q.toNatClampNeg r.toNatClampNeg (n + 1) from (by simp only [kl_joinT, kl_jv]; rw [if_pos c_71, if_pos c_107, if_pos c_112]))) hP
                        have hP : va_P D vwCl (mW cI cZ h b1 b2 b3 u d (kl_joinT tr qn op q.toNatClampNeg r.toNatClampNeg (n + 1)) (nI fn) (nI qn) sd (0 : Int32)) H := hP
                        have hD : va_D _ (mW cI cZ h b1 b2 b3 u d (kl_joinT tr qn op q.toNatClampNeg r.toNatClampNeg (n + 1)) (nI fn) (nI qn) sd (0 : Int32)) := oo_Dre hD (oo_fc (oo_fc (oo_fc (oo_fc rfl))))
                        exact ihn _ _ _ ⟨hP, hD, hS, hl⟩
                      · refine lv_iload hx hb dX1_join_115 (lv_at hl 0 rfl) ?_
                        refine lv_if_eq (tgt := 124) hx hb dX1_join_117 (by decide) (fun c_117 => ?_) (fun c_117 => ?_)
                        · refine lv_iconst (v := (0 : Int32)) hx hb dX1_join_124 (by decide) ?_
                          refine lv_goto (tgt := 181) hx hb dX1_join_125 (by decide) ?_
                          refine va_zast hx hb hK hP hD hS 3 1 rfl rfl (vp_in_nI (by omega) (by omega)) dX1_join_181 (fun H locs hP hD hS => ?_)
                          have hP : va_P D vwCl (mW cI cZ h b1 b2 b3 u d (upd (kl_joinT tr qn op q.toNatClampNeg r.toNatClampNeg n) (nI (4096 * qn + n)).toNatClampNeg (vp_nar .boolean (0 : Int32))) (nI fn) (nI qn) sd (0 : Int32)) H := hP
                          have hD : va_D _ (mW cI cZ h b1 b2 b3 u d (upd (kl_joinT tr qn op q.toNatClampNeg r.toNatClampNeg n) (nI (4096 * qn + n)).toNatClampNeg (vp_nar .boolean (0 : Int32))) (nI fn) (nI qn) sd (0 : Int32)) := hD
                          have hP := Eq.mp (congrArg (fun z9 => va_P D vwCl (mW cI cZ h b1 b2 b3 u d z9 (nI fn) (nI qn) sd (0 : Int32)) H) (show upd (kl_joinT tr qn op q.toNatClampNeg r.toNatClampNeg n) (nI (4096 * qn + n)).toNatClampNeg (vp_nar .boolean (0 : Int32)) = upd (kl_joinT tr qn op q.toNatClampNeg r.toNatClampNeg n) (4096 * qn + n) (0 : Int32) from (by rw [nI_clamp (by omega), oo_vz0]))) hP
                          have hP : va_P D vwCl (mW cI cZ h b1 b2 b3 u d (upd (kl_joinT tr qn op q.toNatClampNeg r.toNatClampNeg n) (4096 * qn + n) (0 : Int32)) (nI fn) (nI qn) sd (0 : Int32)) H := hP
                          have hD : va_D _ (mW cI cZ h b1 b2 b3 u d (upd (kl_joinT tr qn op q.toNatClampNeg r.toNatClampNeg n) (4096 * qn + n) (0 : Int32)) (nI fn) (nI qn) sd (0 : Int32)) := oo_Dre hD (oo_fc (oo_fc (oo_fc (oo_fc rfl))))
                          refine lv_iinc (v := nI (n + 1)) (lv' := [(4, .int (nI (n + 1))), (6, .int (0 : Int32)), (5, .int ((kl_joinT tr qn op q.toNatClampNeg r.toNatClampNeg n) (4096 * q.toNatClampNeg + n))), (0, .ref h), (1, .int op), (2, .int q), (3, .int r)]) hx hb dX1_join_182 hl (k := 6) rfl (oo_inc n 1) (by decide) rfl (fun ls hl => ?_)
                          refine lv_goto (tgt := 52) hx hb dX1_join_185 (by decide) ?_
                          have hl : lv_has ls 7 [(0, .ref h), (1, .int op), (2, .int q), (3, .int r), (4, .int (nI (n + 1)))] := lv_sub hl [3, 4, 5, 6, 0] rfl
                          have hP := Eq.mp (congrArg (fun z9 => va_P D vwCl (mW cI cZ h b1 b2 b3 u d z9 (nI fn) (nI qn) sd (0 : Int32)) H) (show upd (kl_joinT tr qn op q.toNatClampNeg r.toNatClampNeg n) (4096 * qn + n) (0 : Int32) = kl_joinT tr qn op q.toNatClampNeg r.toNatClampNeg (n + 1) from (by simp only [kl_joinT, kl_jv]; rw [if_pos c_71, if_pos c_107, if_neg c_112, if_pos c_117]))) hP
                          have hP : va_P D vwCl (mW cI cZ h b1 b2 b3 u d (kl_joinT tr qn op q.toNatClampNeg r.toNatClampNeg (n + 1)) (nI fn) (nI qn) sd (0 : Int32)) H := hP
                          have hD : va_D _ (mW cI cZ h b1 b2 b3 u d (kl_joinT tr qn op q.toNatClampNeg r.toNatClampNeg (n + 1)) (nI fn) (nI qn) sd (0 : Int32)) := oo_Dre hD (oo_fc (oo_fc (oo_fc (oo_fc rfl))))
                          exact ihn _ _ _ ⟨hP, hD, hS, hl⟩
                        · refine lv_iconst (v := (1 : Int32)) hx hb dX1_join_120 (by decide) ?_
                          refine lv_goto (tgt := 181) hx hb dX1_join_121 (by decide) ?_
                          refine va_zast hx hb hK hP hD hS 3 1 rfl rfl (vp_in_nI (by omega) (by omega)) dX1_join_181 (fun H locs hP hD hS => ?_)
                          have hP : va_P D vwCl (mW cI cZ h b1 b2 b3 u d (upd (kl_joinT tr qn op q.toNatClampNeg r.toNatClampNeg n) (nI (4096 * qn + n)).toNatClampNeg (vp_nar .boolean (1 : Int32))) (nI fn) (nI qn) sd (0 : Int32)) H := hP
                          have hD : va_D _ (mW cI cZ h b1 b2 b3 u d (upd (kl_joinT tr qn op q.toNatClampNeg r.toNatClampNeg n) (nI (4096 * qn + n)).toNatClampNeg (vp_nar .boolean (1 : Int32))) (nI fn) (nI qn) sd (0 : Int32)) := hD
                          have hP := Eq.mp (congrArg (fun z9 => va_P D vwCl (mW cI cZ h b1 b2 b3 u d z9 (nI fn) (nI qn) sd (0 : Int32)) H) (show upd (kl_joinT tr qn op q.toNatClampNeg r.toNatClampNeg n) (nI (4096 * qn + n)).toNatClampNeg (vp_nar .boolean (1 : Int32)) = upd (kl_joinT tr qn op q.toNatClampNeg r.toNatClampNeg n) (4096 * qn + n) (1 : Int32) from (by rw [nI_clamp (by omega), oo_vz1]))) hP
                          have hP : va_P D vwCl (mW cI cZ h b1 b2 b3 u d (upd (kl_joinT tr qn op q.toNatClampNeg r.toNatClampNeg n) (4096 * qn + n) (1 : Int32)) (nI fn) (nI qn) sd (0 : Int32)) H := hP
                          have hD : va_D _ (mW cI cZ h b1 b2 b3 u d (upd (kl_joinT tr qn op q.toNatClampNeg r.toNatClampNeg n) (4096 * qn + n) (1 : Int32)) (nI fn) (nI qn) sd (0 : Int32)) := oo_Dre hD (oo_fc (oo_fc (oo_fc (oo_fc rfl))))
                          refine lv_iinc (v := nI (n + 1)) (lv' := [(4, .int (nI (n + 1))), (6, .int (0 : Int32)), (5, .int ((kl_joinT tr qn op q.toNatClampNeg r.toNatClampNeg n) (4096 * q.toNatClampNeg + n))), (0, .ref h), (1, .int op), (2, .int q), (3, .int r)]) hx hb dX1_join_182 hl (k := 6) rfl (oo_inc n 1) (by decide) rfl (fun ls hl => ?_)
                          refine lv_goto (tgt := 52) hx hb dX1_join_185 (by decide) ?_
                          have hl : lv_has ls 7 [(0, .ref h), (1, .int op), (2, .int q), (3, .int r), (4, .int (nI (n + 1)))] := lv_sub hl [3, 4, 5, 6, 0] rfl
                          have hP := Eq.mp (congrArg (fun z9 => va_P D vwCl (mW cI cZ h b1 b2 b3 u d z9 (nI fn) (nI qn) sd (0 : Int32)) H) (show upd (kl_joinT tr qn op q.toNatClampNeg r.toNatClampNeg n) (4096 * qn + n) (1 : Int32) = kl_joinT tr qn op q.toNatClampNeg r.toNatClampNeg (n + 1) from (by simp only [kl_joinT, kl_jv]; rw [if_pos c_71, if_pos c_107, if_neg c_112, if_neg c_117]))) hP
                          have hP : va_P D vwCl (mW cI cZ h b1 b2 b3 u d (kl_joinT tr qn op q.toNatClampNeg r.toNatClampNeg (n + 1)) (nI fn) (nI qn) sd (0 : Int32)) H := hP
                          have hD : va_D _ (mW cI cZ h b1 b2 b3 u d (kl_joinT tr qn op q.toNatClampNeg r.toNatClampNeg (n + 1)) (nI fn) (nI qn) sd (0 : Int32)) := oo_Dre hD (oo_fc (oo_fc (oo_fc (oo_fc rfl))))
                          exact ihn _ _ _ ⟨hP, hD, hS, hl⟩
                  · refine lv_aload_n hx hb dX1_join_74 rfl (lv_at hl 1 rfl) ?_
                    refine lv_iload_n hx hb dX1_join_75 rfl (lv_at hl 4 rfl) ?_
                    refine oo_topI (y := nI r.toNatClampNeg) (oo_isQ hqn (hr9 c_71)).1 ?_
                    refine lv_iload hx hb dX1_join_76 (lv_at hl 5 rfl) ?_
                    refine ro_calli (va_runV (As := [.int (nI r.toNatClampNeg), .int (nI n)]) (rest := []) ⟨hx, hb, hml, hown, hts⟩ (kX1_isTrue l D cI cZ h b1 b2 b3 u d (kl_joinT tr qn op q.toNatClampNeg r.toNatClampNeg n) fn qn sd (0 : Int32) r.toNatClampNeg n (by have := (oo_isQ hqn (hr9 c_71)).2; omega) (by omega) (kl_joinT_01 h01 n)) (cwV 2 hts gX1_join_X1_isTrue rfl rfl rfl ok_X1_isTrue ⟨Nat.le_of_ble_eq_true rfl, Nat.le_of_ble_eq_true rfl⟩) ⟨oo_blind, va_recv hK hP (ci := 1) (q0 := 0) rfl rfl, oo_ps hP hK [0, 1, 2, 3] rfl [0, 1] rfl⟩ rfl rfl hl.1 rfl (lv_room (Nat.le_of_ble_eq_true rfl)) dX1_join_78 ⟨Nat.le_of_ble_eq_true rfl, Nat.le_of_ble_eq_true rfl⟩) hP hS (fun H locs hP hS => ?_)
                    refine lv_if_eq (tgt := 88) hx hb dX1_join_81 (by decide) (fun c_81 => ?_) (fun c_81 => ?_)
                    · refine lv_iconst (v := (0 : Int32)) hx hb dX1_join_88 (by decide) ?_
                      refine lv_istore (lv' := [(6, .int (0 : Int32)), (5, .int ((kl_joinT tr qn op q.toNatClampNeg r.toNatClampNeg n) (4096 * q.toNatClampNeg + n))), (0, .ref h), (1, .int op), (2, .int q), (3, .int r), (4, .int (nI n))]) hx hb dX1_join_89 hl (by decide) rfl (fun ls hl => ?_)
                      refine lv_aload_n hx hb dX1_join_91 rfl (lv_at hl 2 rfl) ?_
                      refine va_get (D := D) (ci := 1) (v := .ref b3) (C := RX1) (T := TX1) (N := 7) hx hb hts hin hown hK hP 0 rfl rfl 3 (by decide) (hts (.fieldLink RX1 17 "OddsSamplingModel" "truths" "[Z") (by decide +kernel)) (fun _ h9 => h9) rfl dX1_join_92 ?_
                      refine lv_sipush (v := nI 4096) hx hb dX1_join_95 (by decide) ?_
                      refine lv_aload_n hx hb dX1_join_98 rfl (lv_at hl 2 rfl) ?_
                      refine va_get (D := D) (ci := 1) (v := .int (nI qn)) (C := RX1) (T := TX1) (N := 7) hx hb hts hin hown hK hP 0 rfl rfl 4 (by decide) (hts (.fieldLink RX1 25 "OddsSamplingModel" "questions" "I") (by decide +kernel)) (fun _ h9 => h9) rfl dX1_join_99 ?_
                      refine lv_imul hx hb dX1_join_102 ?_
                      refine lv_iload hx hb dX1_join_103 (lv_at hl 6 rfl) ?_
                      refine lv_iadd hx hb dX1_join_105 ?_
                      refine oo_topI (y := nI (4096 * qn + n)) (by rw [pk_mul, nI_add]) ?_
                      refine lv_iload_n hx hb dX1_join_106 rfl (lv_at hl 3 rfl) ?_
                      refine lv_if_ne (tgt := 128) hx hb dX1_join_107 (by decide) (fun c_107 => ?_) (fun c_107 => ?_)
                      · refine lv_iload_n hx hb dX1_join_128 rfl (lv_at hl 3 rfl) ?_
                        refine lv_iconst (v := (1 : Int32)) hx hb dX1_join_129 (by decide) ?_
                        refine lv_icmp_ne (tgt := 151) hx hb dX1_join_130 (by decide) (fun c_130 => ?_) (fun c_130 => ?_)
                        · refine lv_iload_n hx hb dX1_join_151 rfl (lv_at hl 3 rfl) ?_
                          refine lv_iconst (v := (2 : Int32)) hx hb dX1_join_152 (by decide) ?_
                          refine lv_icmp_ne (tgt := 171) hx hb dX1_join_153 (by decide) (fun c_153 => ?_) (fun c_153 => ?_)
                          · refine lv_iload hx hb dX1_join_171 (lv_at hl 1 rfl) ?_
                            refine lv_if_ne (tgt := 180) hx hb dX1_join_173 (by decide) (fun c_173 => ?_) (fun c_173 => ?_)
                            · refine lv_iconst (v := (0 : Int32)) hx hb dX1_join_180 (by decide) ?_
                              refine va_zast hx hb hK hP hD hS 3 1 rfl rfl (vp_in_nI (by omega) (by omega)) dX1_join_181 (fun H locs hP hD hS => ?_)
                              have hP : va_P D vwCl (mW cI cZ h b1 b2 b3 u d (upd (kl_joinT tr qn op q.toNatClampNeg r.toNatClampNeg n) (nI (4096 * qn + n)).toNatClampNeg (vp_nar .boolean (0 : Int32))) (nI fn) (nI qn) sd (0 : Int32)) H := hP
                              have hD : va_D _ (mW cI cZ h b1 b2 b3 u d (upd (kl_joinT tr qn op q.toNatClampNeg r.toNatClampNeg n) (nI (4096 * qn + n)).toNatClampNeg (vp_nar .boolean (0 : Int32))) (nI fn) (nI qn) sd (0 : Int32)) := hD
                              have hP := Eq.mp (congrArg (fun z9 => va_P D vwCl (mW cI cZ h b1 b2 b3 u d z9 (nI fn) (nI qn) sd (0 : Int32)) H) (show upd (kl_joinT tr qn op q.toNatClampNeg r.toNatClampNeg n) (nI (4096 * qn + n)).toNatClampNeg (vp_nar .boolean (0 : Int32)) = upd (kl_joinT tr qn op q.toNatClampNeg r.toNatClampNeg n) (4096 * qn + n) (0 : Int32) from (by rw [nI_clamp (by omega), oo_vz0]))) hP
                              have hP : va_P D vwCl (mW cI cZ h b1 b2 b3 u d (upd (kl_joinT tr qn op q.toNatClampNeg r.toNatClampNeg n) (4096 * qn + n) (0 : Int32)) (nI fn) (nI qn) sd (0 : Int32)) H := hP
                              have hD : va_D _ (mW cI cZ h b1 b2 b3 u d (upd (kl_joinT tr qn op q.toNatClampNeg r.toNatClampNeg n) (4096 * qn + n) (0 : Int32)) (nI fn) (nI qn) sd (0 : Int32)) := oo_Dre hD (oo_fc (oo_fc (oo_fc (oo_fc rfl))))
                              refine lv_iinc (v := nI (n + 1)) (lv' := [(4, .int (nI (n + 1))), (6, .int (0 : Int32)), (5, .int ((kl_joinT tr qn op q.toNatClampNeg r.toNatClampNeg n) (4096 * q.toNatClampNeg + n))), (0, .ref h), (1, .int op), (2, .int q), (3, .int r)]) hx hb dX1_join_182 hl (k := 6) rfl (oo_inc n 1) (by decide) rfl (fun ls hl => ?_)
                              refine lv_goto (tgt := 52) hx hb dX1_join_185 (by decide) ?_
                              have hl : lv_has ls 7 [(0, .ref h), (1, .int op), (2, .int q), (3, .int r), (4, .int (nI (n + 1)))] := lv_sub hl [3, 4, 5, 6, 0] rfl
                              have hP := Eq.mp (congrArg (fun z9 => va_P D vwCl (mW cI cZ h b1 b2 b3 u d z9 (nI fn) (nI qn) sd (0 : Int32)) H) (show upd (kl_joinT tr qn op q.toNatClampNeg r.toNatClampNeg n) (4096 * qn + n) (0 : Int32) = kl_joinT tr qn op q.toNatClampNeg r.toNatClampNeg (n + 1) from (by simp only [kl_joinT, kl_jv]; rw [if_neg c_71, if_pos c_81, if_neg c_107, if_neg c_130, if_neg c_153, if_neg c_173]))) hP
                              have hP : va_P D vwCl (mW cI cZ h b1 b2 b3 u d (kl_joinT tr qn op q.toNatClampNeg r.toNatClampNeg (n + 1)) (nI fn) (nI qn) sd (0 : Int32)) H := hP
                              have hD : va_D _ (mW cI cZ h b1 b2 b3 u d (kl_joinT tr qn op q.toNatClampNeg r.toNatClampNeg (n + 1)) (nI fn) (nI qn) sd (0 : Int32)) := oo_Dre hD (oo_fc (oo_fc (oo_fc (oo_fc rfl))))
                              exact ihn _ _ _ ⟨hP, hD, hS, hl⟩
                            · refine lv_iconst (v := (1 : Int32)) hx hb dX1_join_176 (by decide) ?_
                              refine lv_goto (tgt := 181) hx hb dX1_join_177 (by decide) ?_
                              refine va_zast hx hb hK hP hD hS 3 1 rfl rfl (vp_in_nI (by omega) (by omega)) dX1_join_181 (fun H locs hP hD hS => ?_)
                              have hP : va_P D vwCl (mW cI cZ h b1 b2 b3 u d (upd (kl_joinT tr qn op q.toNatClampNeg r.toNatClampNeg n) (nI (4096 * qn + n)).toNatClampNeg (vp_nar .boolean (1 : Int32))) (nI fn) (nI qn) sd (0 : Int32)) H := hP
                              have hD : va_D _ (mW cI cZ h b1 b2 b3 u d (upd (kl_joinT tr qn op q.toNatClampNeg r.toNatClampNeg n) (nI (4096 * qn + n)).toNatClampNeg (vp_nar .boolean (1 : Int32))) (nI fn) (nI qn) sd (0 : Int32)) := hD
                              have hP := Eq.mp (congrArg (fun z9 => va_P D vwCl (mW cI cZ h b1 b2 b3 u d z9 (nI fn) (nI qn) sd (0 : Int32)) H) (show upd (kl_joinT tr qn op q.toNatClampNeg r.toNatClampNeg n) (nI (4096 * qn + n)).toNatClampNeg (vp_nar .boolean (1 : Int32)) = upd (kl_joinT tr qn op q.toNatClampNeg r.toNatClampNeg n) (4096 * qn + n) (1 : Int32) from (by rw [nI_clamp (by omega), oo_vz1]))) hP
                              have hP : va_P D vwCl (mW cI cZ h b1 b2 b3 u d (upd (kl_joinT tr qn op q.toNatClampNeg r.toNatClampNeg n) (4096 * qn + n) (1 : Int32)) (nI fn) (nI qn) sd (0 : Int32)) H := hP
                              have hD : va_D _ (mW cI cZ h b1 b2 b3 u d (upd (kl_joinT tr qn op q.toNatClampNeg r.toNatClampNeg n) (4096 * qn + n) (1 : Int32)) (nI fn) (nI qn) sd (0 : Int32)) := oo_Dre hD (oo_fc (oo_fc (oo_fc (oo_fc rfl))))
                              refine lv_iinc (v := nI (n + 1)) (lv' := [(4, .int (nI (n + 1))), (6, .int (0 : Int32)), (5, .int ((kl_joinT tr qn op q.toNatClampNeg r.toNatClampNeg n) (4096 * q.toNatClampNeg + n))), (0, .ref h), (1, .int op), (2, .int q), (3, .int r)]) hx hb dX1_join_182 hl (k := 6) rfl (oo_inc n 1) (by decide) rfl (fun ls hl => ?_)
                              refine lv_goto (tgt := 52) hx hb dX1_join_185 (by decide) ?_
                              have hl : lv_has ls 7 [(0, .ref h), (1, .int op), (2, .int q), (3, .int r), (4, .int (nI (n + 1)))] := lv_sub hl [3, 4, 5, 6, 0] rfl
                              have hP := Eq.mp (congrArg (fun z9 => va_P D vwCl (mW cI cZ h b1 b2 b3 u d z9 (nI fn) (nI qn) sd (0 : Int32)) H) (show upd (kl_joinT tr qn op q.toNatClampNeg r.toNatClampNeg n) (4096 * qn + n) (1 : Int32) = kl_joinT tr qn op q.toNatClampNeg r.toNatClampNeg (n + 1) from (by simp only [kl_joinT, kl_jv]; rw [if_neg c_71, if_pos c_81, if_neg c_107, if_neg c_130, if_neg c_153, if_pos c_173]))) hP
                              have hP : va_P D vwCl (mW cI cZ h b1 b2 b3 u d (kl_joinT tr qn op q.toNatClampNeg r.toNatClampNeg (n + 1)) (nI fn) (nI qn) sd (0 : Int32)) H := hP
                              have hD : va_D _ (mW cI cZ h b1 b2 b3 u d (kl_joinT tr qn op q.toNatClampNeg r.toNatClampNeg (n + 1)) (nI fn) (nI qn) sd (0 : Int32)) := oo_Dre hD (oo_fc (oo_fc (oo_fc (oo_fc rfl))))
                              exact ihn _ _ _ ⟨hP, hD, hS, hl⟩
                          · refine lv_iload hx hb dX1_join_156 (lv_at hl 1 rfl) ?_
                            refine lv_iload hx hb dX1_join_158 (lv_at hl 0 rfl) ?_
                            refine lv_icmp_eq (tgt := 167) hx hb dX1_join_160 (by decide) (fun c_160 => ?_) (fun c_160 => ?_)
                            · refine lv_iconst (v := (0 : Int32)) hx hb dX1_join_167 (by decide) ?_
                              refine lv_goto (tgt := 181) hx hb dX1_join_168 (by decide) ?_
                              refine va_zast hx hb hK hP hD hS 3 1 rfl rfl (vp_in_nI (by omega) (by omega)) dX1_join_181 (fun H locs hP hD hS => ?_)
                              have hP : va_P D vwCl (mW cI cZ h b1 b2 b3 u d (upd (kl_joinT tr qn op q.toNatClampNeg r.toNatClampNeg n) (nI (4096 * qn + n)).toNatClampNeg (vp_nar .boolean (0 : Int32))) (nI fn) (nI qn) sd (0 : Int32)) H := hP
                              have hD : va_D _ (mW cI cZ h b1 b2 b3 u d (upd (kl_joinT tr qn op q.toNatClampNeg r.toNatClampNeg n) (nI (4096 * qn + n)).toNatClampNeg (vp_nar .boolean (0 : Int32))) (nI fn) (nI qn) sd (0 : Int32)) := hD
                              have hP := Eq.mp (congrArg (fun z9 => va_P D vwCl (mW cI cZ h b1 b2 b3 u d z9 (nI fn) (nI qn) sd (0 : Int32)) H) (show upd (kl_joinT tr qn op q.toNatClampNeg r.toNatClampNeg n) (nI (4096 * qn + n)).toNatClampNeg (vp_nar .boolean (0 : Int32)) = upd (kl_joinT tr qn op q.toNatClampNeg r.toNatClampNeg n) (4096 * qn + n) (0 : Int32) from (by rw [nI_clamp (by omega), oo_vz0]))) hP
                              have hP : va_P D vwCl (mW cI cZ h b1 b2 b3 u d (upd (kl_joinT tr qn op q.toNatClampNeg r.toNatClampNeg n) (4096 * qn + n) (0 : Int32)) (nI fn) (nI qn) sd (0 : Int32)) H := hP
                              have hD : va_D _ (mW cI cZ h b1 b2 b3 u d (upd (kl_joinT tr qn op q.toNatClampNeg r.toNatClampNeg n) (4096 * qn + n) (0 : Int32)) (nI fn) (nI qn) sd (0 : Int32)) := oo_Dre hD (oo_fc (oo_fc (oo_fc (oo_fc rfl))))
                              refine lv_iinc (v := nI (n + 1)) (lv' := [(4, .int (nI (n + 1))), (6, .int (0 : Int32)), (5, .int ((kl_joinT tr qn op q.toNatClampNeg r.toNatClampNeg n) (4096 * q.toNatClampNeg + n))), (0, .ref h), (1, .int op), (2, .int q), (3, .int r)]) hx hb dX1_join_182 hl (k := 6) rfl (oo_inc n 1) (by decide) rfl (fun ls hl => ?_)
                              refine lv_goto (tgt := 52) hx hb dX1_join_185 (by decide) ?_
                              have hl : lv_has ls 7 [(0, .ref h), (1, .int op), (2, .int q), (3, .int r), (4, .int (nI (n + 1)))] := lv_sub hl [3, 4, 5, 6, 0] rfl
                              have hP := Eq.mp (congrArg (fun z9 => va_P D vwCl (mW cI cZ h b1 b2 b3 u d z9 (nI fn) (nI qn) sd (0 : Int32)) H) (show upd (kl_joinT tr qn op q.toNatClampNeg r.toNatClampNeg n) (4096 * qn + n) (0 : Int32) = kl_joinT tr qn op q.toNatClampNeg r.toNatClampNeg (n + 1) from (by simp only [kl_joinT, kl_jv]; rw [if_neg c_71, if_pos c_81, if_neg c_107, if_neg c_130, if_pos c_153, if_pos c_160]))) hP
                              have hP : va_P D vwCl (mW cI cZ h b1 b2 b3 u d (kl_joinT tr qn op q.toNatClampNeg r.toNatClampNeg (n + 1)) (nI fn) (nI qn) sd (0 : Int32)) H := hP
                              have hD : va_D _ (mW cI cZ h b1 b2 b3 u d (kl_joinT tr qn op q.toNatClampNeg r.toNatClampNeg (n + 1)) (nI fn) (nI qn) sd (0 : Int32)) := oo_Dre hD (oo_fc (oo_fc (oo_fc (oo_fc rfl))))
                              exact ihn _ _ _ ⟨hP, hD, hS, hl⟩
                            · refine lv_iconst (v := (1 : Int32)) hx hb dX1_join_163 (by decide) ?_
                              refine lv_goto (tgt := 181) hx hb dX1_join_164 (by decide) ?_
                              refine va_zast hx hb hK hP hD hS 3 1 rfl rfl (vp_in_nI (by omega) (by omega)) dX1_join_181 (fun H locs hP hD hS => ?_)
                              have hP : va_P D vwCl (mW cI cZ h b1 b2 b3 u d (upd (kl_joinT tr qn op q.toNatClampNeg r.toNatClampNeg n) (nI (4096 * qn + n)).toNatClampNeg (vp_nar .boolean (1 : Int32))) (nI fn) (nI qn) sd (0 : Int32)) H := hP
                              have hD : va_D _ (mW cI cZ h b1 b2 b3 u d (upd (kl_joinT tr qn op q.toNatClampNeg r.toNatClampNeg n) (nI (4096 * qn + n)).toNatClampNeg (vp_nar .boolean (1 : Int32))) (nI fn) (nI qn) sd (0 : Int32)) := hD
                              have hP := Eq.mp (congrArg (fun z9 => va_P D vwCl (mW cI cZ h b1 b2 b3 u d z9 (nI fn) (nI qn) sd (0 : Int32)) H) (show upd (kl_joinT tr qn op q.toNatClampNeg r.toNatClampNeg n) (nI (4096 * qn + n)).toNatClampNeg (vp_nar .boolean (1 : Int32)) = upd (kl_joinT tr qn op q.toNatClampNeg r.toNatClampNeg n) (4096 * qn + n) (1 : Int32) from (by rw [nI_clamp (by omega), oo_vz1]))) hP
                              have hP : va_P D vwCl (mW cI cZ h b1 b2 b3 u d (upd (kl_joinT tr qn op q.toNatClampNeg r.toNatClampNeg n) (4096 * qn + n) (1 : Int32)) (nI fn) (nI qn) sd (0 : Int32)) H := hP
                              have hD : va_D _ (mW cI cZ h b1 b2 b3 u d (upd (kl_joinT tr qn op q.toNatClampNeg r.toNatClampNeg n) (4096 * qn + n) (1 : Int32)) (nI fn) (nI qn) sd (0 : Int32)) := oo_Dre hD (oo_fc (oo_fc (oo_fc (oo_fc rfl))))
                              refine lv_iinc (v := nI (n + 1)) (lv' := [(4, .int (nI (n + 1))), (6, .int (0 : Int32)), (5, .int ((kl_joinT tr qn op q.toNatClampNeg r.toNatClampNeg n) (4096 * q.toNatClampNeg + n))), (0, .ref h), (1, .int op), (2, .int q), (3, .int r)]) hx hb dX1_join_182 hl (k := 6) rfl (oo_inc n 1) (by decide) rfl (fun ls hl => ?_)
                              refine lv_goto (tgt := 52) hx hb dX1_join_185 (by decide) ?_
                              have hl : lv_has ls 7 [(0, .ref h), (1, .int op), (2, .int q), (3, .int r), (4, .int (nI (n + 1)))] := lv_sub hl [3, 4, 5, 6, 0] rfl
                              have hP := Eq.mp (congrArg (fun z9 => va_P D vwCl (mW cI cZ h b1 b2 b3 u d z9 (nI fn) (nI qn) sd (0 : Int32)) H) (show upd (kl_joinT tr qn op q.toNatClampNeg r.toNatClampNeg n) (4096 * qn + n) (1 : Int32) = kl_joinT tr qn op q.toNatClampNeg r.toNatClampNeg (n + 1) from (by simp only [kl_joinT, kl_jv]; rw [if_neg c_71, if_pos c_81, if_neg c_107, if_neg c_130, if_pos c_153, if_neg c_160]))) hP
                              have hP : va_P D vwCl (mW cI cZ h b1 b2 b3 u d (kl_joinT tr qn op q.toNatClampNeg r.toNatClampNeg (n + 1)) (nI fn) (nI qn) sd (0 : Int32)) H := hP
                              have hD : va_D _ (mW cI cZ h b1 b2 b3 u d (kl_joinT tr qn op q.toNatClampNeg r.toNatClampNeg (n + 1)) (nI fn) (nI qn) sd (0 : Int32)) := oo_Dre hD (oo_fc (oo_fc (oo_fc (oo_fc rfl))))
                              exact ihn _ _ _ ⟨hP, hD, hS, hl⟩
                        · refine lv_iload hx hb dX1_join_133 (lv_at hl 1 rfl) ?_
                          refine lv_if_ne (tgt := 143) hx hb dX1_join_135 (by decide) (fun c_135 => ?_) (fun c_135 => ?_)
                          · refine lv_iconst (v := (1 : Int32)) hx hb dX1_join_143 (by decide) ?_
                            refine lv_goto (tgt := 181) hx hb dX1_join_144 (by decide) ?_
                            refine va_zast hx hb hK hP hD hS 3 1 rfl rfl (vp_in_nI (by omega) (by omega)) dX1_join_181 (fun H locs hP hD hS => ?_)
                            have hP : va_P D vwCl (mW cI cZ h b1 b2 b3 u d (upd (kl_joinT tr qn op q.toNatClampNeg r.toNatClampNeg n) (nI (4096 * qn + n)).toNatClampNeg (vp_nar .boolean (1 : Int32))) (nI fn) (nI qn) sd (0 : Int32)) H := hP
                            have hD : va_D _ (mW cI cZ h b1 b2 b3 u d (upd (kl_joinT tr qn op q.toNatClampNeg r.toNatClampNeg n) (nI (4096 * qn + n)).toNatClampNeg (vp_nar .boolean (1 : Int32))) (nI fn) (nI qn) sd (0 : Int32)) := hD
                            have hP := Eq.mp (congrArg (fun z9 => va_P D vwCl (mW cI cZ h b1 b2 b3 u d z9 (nI fn) (nI qn) sd (0 : Int32)) H) (show upd (kl_joinT tr qn op q.toNatClampNeg r.toNatClampNeg n) (nI (4096 * qn + n)).toNatClampNeg (vp_nar .boolean (1 : Int32)) = upd (kl_joinT tr qn op q.toNatClampNeg r.toNatClampNeg n) (4096 * qn + n) (1 : Int32) from (by rw [nI_clamp (by omega), oo_vz1]))) hP
                            have hP : va_P D vwCl (mW cI cZ h b1 b2 b3 u d (upd (kl_joinT tr qn op q.toNatClampNeg r.toNatClampNeg n) (4096 * qn + n) (1 : Int32)) (nI fn) (nI qn) sd (0 : Int32)) H := hP
                            have hD : va_D _ (mW cI cZ h b1 b2 b3 u d (upd (kl_joinT tr qn op q.toNatClampNeg r.toNatClampNeg n) (4096 * qn + n) (1 : Int32)) (nI fn) (nI qn) sd (0 : Int32)) := oo_Dre hD (oo_fc (oo_fc (oo_fc (oo_fc rfl))))
                            refine lv_iinc (v := nI (n + 1)) (lv' := [(4, .int (nI (n + 1))), (6, .int (0 : Int32)), (5, .int ((kl_joinT tr qn op q.toNatClampNeg r.toNatClampNeg n) (4096 * q.toNatClampNeg + n))), (0, .ref h), (1, .int op), (2, .int q), (3, .int r)]) hx hb dX1_join_182 hl (k := 6) rfl (oo_inc n 1) (by decide) rfl (fun ls hl => ?_)
                            refine lv_goto (tgt := 52) hx hb dX1_join_185 (by decide) ?_
                            have hl : lv_has ls 7 [(0, .ref h), (1, .int op), (2, .int q), (3, .int r), (4, .int (nI (n + 1)))] := lv_sub hl [3, 4, 5, 6, 0] rfl
                            have hP := Eq.mp (congrArg (fun z9 => va_P D vwCl (mW cI cZ h b1 b2 b3 u d z9 (nI fn) (nI qn) sd (0 : Int32)) H) (show upd (kl_joinT tr qn op q.toNatClampNeg r.toNatClampNeg n) (4096 * qn + n) (1 : Int32) = kl_joinT tr qn op q.toNatClampNeg r.toNatClampNeg (n + 1) from (by simp only [kl_joinT, kl_jv]; rw [if_neg c_71, if_pos c_81, if_neg c_107, if_pos c_130, if_neg c_135]))) hP
                            have hP : va_P D vwCl (mW cI cZ h b1 b2 b3 u d (kl_joinT tr qn op q.toNatClampNeg r.toNatClampNeg (n + 1)) (nI fn) (nI qn) sd (0 : Int32)) H := hP
                            have hD : va_D _ (mW cI cZ h b1 b2 b3 u d (kl_joinT tr qn op q.toNatClampNeg r.toNatClampNeg (n + 1)) (nI fn) (nI qn) sd (0 : Int32)) := oo_Dre hD (oo_fc (oo_fc (oo_fc (oo_fc rfl))))
                            exact ihn _ _ _ ⟨hP, hD, hS, hl⟩
                          · refine lv_iload hx hb dX1_join_138 (lv_at hl 0 rfl) ?_
                            refine lv_if_eq (tgt := 147) hx hb dX1_join_140 (by decide) (fun c_140 => ?_) (fun c_140 => ?_)
                            · refine lv_iconst (v := (0 : Int32)) hx hb dX1_join_147 (by decide) ?_
                              refine lv_goto (tgt := 181) hx hb dX1_join_148 (by decide) ?_
                              refine va_zast hx hb hK hP hD hS 3 1 rfl rfl (vp_in_nI (by omega) (by omega)) dX1_join_181 (fun H locs hP hD hS => ?_)
                              have hP : va_P D vwCl (mW cI cZ h b1 b2 b3 u d (upd (kl_joinT tr qn op q.toNatClampNeg r.toNatClampNeg n) (nI (4096 * qn + n)).toNatClampNeg (vp_nar .boolean (0 : Int32))) (nI fn) (nI qn) sd (0 : Int32)) H := hP
                              have hD : va_D _ (mW cI cZ h b1 b2 b3 u d (upd (kl_joinT tr qn op q.toNatClampNeg r.toNatClampNeg n) (nI (4096 * qn + n)).toNatClampNeg (vp_nar .boolean (0 : Int32))) (nI fn) (nI qn) sd (0 : Int32)) := hD
                              have hP := Eq.mp (congrArg (fun z9 => va_P D vwCl (mW cI cZ h b1 b2 b3 u d z9 (nI fn) (nI qn) sd (0 : Int32)) H) (show upd (kl_joinT tr qn op q.toNatClampNeg r.toNatClampNeg n) (nI (4096 * qn + n)).toNatClampNeg (vp_nar .boolean (0 : Int32)) = upd (kl_joinT tr qn op q.toNatClampNeg r.toNatClampNeg n) (4096 * qn + n) (0 : Int32) from (by rw [nI_clamp (by omega), oo_vz0]))) hP
                              have hP : va_P D vwCl (mW cI cZ h b1 b2 b3 u d (upd (kl_joinT tr qn op q.toNatClampNeg r.toNatClampNeg n) (4096 * qn + n) (0 : Int32)) (nI fn) (nI qn) sd (0 : Int32)) H := hP
                              have hD : va_D _ (mW cI cZ h b1 b2 b3 u d (upd (kl_joinT tr qn op q.toNatClampNeg r.toNatClampNeg n) (4096 * qn + n) (0 : Int32)) (nI fn) (nI qn) sd (0 : Int32)) := oo_Dre hD (oo_fc (oo_fc (oo_fc (oo_fc rfl))))
                              refine lv_iinc (v := nI (n + 1)) (lv' := [(4, .int (nI (n + 1))), (6, .int (0 : Int32)), (5, .int ((kl_joinT tr qn op q.toNatClampNeg r.toNatClampNeg n) (4096 * q.toNatClampNeg + n))), (0, .ref h), (1, .int op), (2, .int q), (3, .int r)]) hx hb dX1_join_182 hl (k := 6) rfl (oo_inc n 1) (by decide) rfl (fun ls hl => ?_)
                              refine lv_goto (tgt := 52) hx hb dX1_join_185 (by decide) ?_
                              have hl : lv_has ls 7 [(0, .ref h), (1, .int op), (2, .int q), (3, .int r), (4, .int (nI (n + 1)))] := lv_sub hl [3, 4, 5, 6, 0] rfl
                              have hP := Eq.mp (congrArg (fun z9 => va_P D vwCl (mW cI cZ h b1 b2 b3 u d z9 (nI fn) (nI qn) sd (0 : Int32)) H) (show upd (kl_joinT tr qn op q.toNatClampNeg r.toNatClampNeg n) (4096 * qn + n) (0 : Int32) = kl_joinT tr qn op q.toNatClampNeg r.toNatClampNeg (n + 1) from (by simp only [kl_joinT, kl_jv]; rw [if_neg c_71, if_pos c_81, if_neg c_107, if_pos c_130, if_pos c_135, if_pos c_140]))) hP
                              have hP : va_P D vwCl (mW cI cZ h b1 b2 b3 u d (kl_joinT tr qn op q.toNatClampNeg r.toNatClampNeg (n + 1)) (nI fn) (nI qn) sd (0 : Int32)) H := hP
                              have hD : va_D _ (mW cI cZ h b1 b2 b3 u d (kl_joinT tr qn op q.toNatClampNeg r.toNatClampNeg (n + 1)) (nI fn) (nI qn) sd (0 : Int32)) := oo_Dre hD (oo_fc (oo_fc (oo_fc (oo_fc rfl))))
                              exact ihn _ _ _ ⟨hP, hD, hS, hl⟩
                            · refine lv_iconst (v := (1 : Int32)) hx hb dX1_join_143 (by decide) ?_
                              refine lv_goto (tgt := 181) hx hb dX1_join_144 (by decide) ?_
                              refine va_zast hx hb hK hP hD hS 3 1 rfl rfl (vp_in_nI (by omega) (by omega)) dX1_join_181 (fun H locs hP hD hS => ?_)
                              have hP : va_P D vwCl (mW cI cZ h b1 b2 b3 u d (upd (kl_joinT tr qn op q.toNatClampNeg r.toNatClampNeg n) (nI (4096 * qn + n)).toNatClampNeg (vp_nar .boolean (1 : Int32))) (nI fn) (nI qn) sd (0 : Int32)) H := hP
                              have hD : va_D _ (mW cI cZ h b1 b2 b3 u d (upd (kl_joinT tr qn op q.toNatClampNeg r.toNatClampNeg n) (nI (4096 * qn + n)).toNatClampNeg (vp_nar .boolean (1 : Int32))) (nI fn) (nI qn) sd (0 : Int32)) := hD
                              have hP := Eq.mp (congrArg (fun z9 => va_P D vwCl (mW cI cZ h b1 b2 b3 u d z9 (nI fn) (nI qn) sd (0 : Int32)) H) (show upd (kl_joinT tr qn op q.toNatClampNeg r.toNatClampNeg n) (nI (4096 * qn + n)).toNatClampNeg (vp_nar .boolean (1 : Int32)) = upd (kl_joinT tr qn op q.toNatClampNeg r.toNatClampNeg n) (4096 * qn + n) (1 : Int32) from (by rw [nI_clamp (by omega), oo_vz1]))) hP
                              have hP : va_P D vwCl (mW cI cZ h b1 b2 b3 u d (upd (kl_joinT tr qn op q.toNatClampNeg r.toNatClampNeg n) (4096 * qn + n) (1 : Int32)) (nI fn) (nI qn) sd (0 : Int32)) H := hP
                              have hD : va_D _ (mW cI cZ h b1 b2 b3 u d (upd (kl_joinT tr qn op q.toNatClampNeg r.toNatClampNeg n) (4096 * qn + n) (1 : Int32)) (nI fn) (nI qn) sd (0 : Int32)) := oo_Dre hD (oo_fc (oo_fc (oo_fc (oo_fc rfl))))
                              refine lv_iinc (v := nI (n + 1)) (lv' := [(4, .int (nI (n + 1))), (6, .int (0 : Int32)), (5, .int ((kl_joinT tr qn op q.toNatClampNeg r.toNatClampNeg n) (4096 * q.toNatClampNeg + n))), (0, .ref h), (1, .int op), (2, .int q), (3, .int r)]) hx hb dX1_join_182 hl (k := 6) rfl (oo_inc n 1) (by decide) rfl (fun ls hl => ?_)
                              refine lv_goto (tgt := 52) hx hb dX1_join_185 (by decide) ?_
                              have hl : lv_has ls 7 [(0, .ref h), (1, .int op), (2, .int q), (3, .int r), (4, .int (nI (n + 1)))] := lv_sub hl [3, 4, 5, 6, 0] rfl
                              have hP := Eq.mp (congrArg (fun z9 => va_P D vwCl (mW cI cZ h b1 b2 b3 u d z9 (nI fn) (nI qn) sd (0 : Int32)) H) (show upd (kl_joinT tr qn op q.toNatClampNeg r.toNatClampNeg n) (4096 * qn + n) (1 : Int32) = kl_joinT tr qn op q.toNatClampNeg r.toNatClampNeg (n + 1) from (by simp only [kl_joinT, kl_jv]; rw [if_neg c_71, if_pos c_81, if_neg c_107, if_pos c_130, if_pos c_135, if_neg c_140]))) hP
                              have hP : va_P D vwCl (mW cI cZ h b1 b2 b3 u d (kl_joinT tr qn op q.toNatClampNeg r.toNatClampNeg (n + 1)) (nI fn) (nI qn) sd (0 : Int32)) H := hP
                              have hD : va_D _ (mW cI cZ h b1 b2 b3 u d (kl_joinT tr qn op q.toNatClampNeg r.toNatClampNeg (n + 1)) (nI fn) (nI qn) sd (0 : Int32)) := oo_Dre hD (oo_fc (oo_fc (oo_fc (oo_fc rfl))))
                              exact ihn _ _ _ ⟨hP, hD, hS, hl⟩
                      · refine lv_iload hx hb dX1_join_110 (lv_at hl 1 rfl) ?_
                        refine lv_if_eq (tgt := 124) hx hb dX1_join_112 (by decide) (fun c_112 => ?_) (fun c_112 => ?_)
                        · refine lv_iconst (v := (0 : Int32)) hx hb dX1_join_124 (by decide) ?_
                          refine lv_goto (tgt := 181) hx hb dX1_join_125 (by decide) ?_
                          refine va_zast hx hb hK hP hD hS 3 1 rfl rfl (vp_in_nI (by omega) (by omega)) dX1_join_181 (fun H locs hP hD hS => ?_)
                          have hP : va_P D vwCl (mW cI cZ h b1 b2 b3 u d (upd (kl_joinT tr qn op q.toNatClampNeg r.toNatClampNeg n) (nI (4096 * qn + n)).toNatClampNeg (vp_nar .boolean (0 : Int32))) (nI fn) (nI qn) sd (0 : Int32)) H := hP
                          have hD : va_D _ (mW cI cZ h b1 b2 b3 u d (upd (kl_joinT tr qn op q.toNatClampNeg r.toNatClampNeg n) (nI (4096 * qn + n)).toNatClampNeg (vp_nar .boolean (0 : Int32))) (nI fn) (nI qn) sd (0 : Int32)) := hD
                          have hP := Eq.mp (congrArg (fun z9 => va_P D vwCl (mW cI cZ h b1 b2 b3 u d z9 (nI fn) (nI qn) sd (0 : Int32)) H) (show upd (kl_joinT tr qn op q.toNatClampNeg r.toNatClampNeg n) (nI (4096 * qn + n)).toNatClampNeg (vp_nar .boolean (0 : Int32)) = upd (kl_joinT tr qn op q.toNatClampNeg r.toNatClampNeg n) (4096 * qn + n) (0 : Int32) from (by rw [nI_clamp (by omega), oo_vz0]))) hP
                          have hP : va_P D vwCl (mW cI cZ h b1 b2 b3 u d (upd (kl_joinT tr qn op q.toNatClampNeg r.toNatClampNeg n) (4096 * qn + n) (0 : Int32)) (nI fn) (nI qn) sd (0 : Int32)) H := hP
                          have hD : va_D _ (mW cI cZ h b1 b2 b3 u d (upd (kl_joinT tr qn op q.toNatClampNeg r.toNatClampNeg n) (4096 * qn + n) (0 : Int32)) (nI fn) (nI qn) sd (0 : Int32)) := oo_Dre hD (oo_fc (oo_fc (oo_fc (oo_fc rfl))))
                          refine lv_iinc (v := nI (n + 1)) (lv' := [(4, .int (nI (n + 1))), (6, .int (0 : Int32)), (5, .int ((kl_joinT tr qn op q.toNatClampNeg r.toNatClampNeg n) (4096 * q.toNatClampNeg + n))), (0, .ref h), (1, .int op), (2, .int q), (3, .int r)]) hx hb dX1_join_182 hl (k := 6) rfl (oo_inc n 1) (by decide) rfl (fun ls hl => ?_)
                          refine lv_goto (tgt := 52) hx hb dX1_join_185 (by decide) ?_
                          have hl : lv_has ls 7 [(0, .ref h), (1, .int op), (2, .int q), (3, .int r), (4, .int (nI (n + 1)))] := lv_sub hl [3, 4, 5, 6, 0] rfl
                          have hP := Eq.mp (congrArg (fun z9 => va_P D vwCl (mW cI cZ h b1 b2 b3 u d z9 (nI fn) (nI qn) sd (0 : Int32)) H) (show upd (kl_joinT tr qn op q.toNatClampNeg r.toNatClampNeg n) (4096 * qn + n) (0 : Int32) = kl_joinT tr qn op q.toNatClampNeg r.toNatClampNeg (n + 1) from (by simp only [kl_joinT, kl_jv]; rw [if_neg c_71, if_pos c_81, if_pos c_107, if_pos c_112]))) hP
                          have hP : va_P D vwCl (mW cI cZ h b1 b2 b3 u d (kl_joinT tr qn op q.toNatClampNeg r.toNatClampNeg (n + 1)) (nI fn) (nI qn) sd (0 : Int32)) H := hP
                          have hD : va_D _ (mW cI cZ h b1 b2 b3 u d (kl_joinT tr qn op q.toNatClampNeg r.toNatClampNeg (n + 1)) (nI fn) (nI qn) sd (0 : Int32)) := oo_Dre hD (oo_fc (oo_fc (oo_fc (oo_fc rfl))))
                          exact ihn _ _ _ ⟨hP, hD, hS, hl⟩
                        · refine lv_iload hx hb dX1_join_115 (lv_at hl 0 rfl) ?_
                          refine lv_if_eq (tgt := 124) hx hb dX1_join_117 (by decide) (fun c_117 => ?_) (fun c_117 => ?_)
                          · refine lv_iconst (v := (0 : Int32)) hx hb dX1_join_124 (by decide) ?_
                            refine lv_goto (tgt := 181) hx hb dX1_join_125 (by decide) ?_
                            refine va_zast hx hb hK hP hD hS 3 1 rfl rfl (vp_in_nI (by omega) (by omega)) dX1_join_181 (fun H locs hP hD hS => ?_)
                            have hP : va_P D vwCl (mW cI cZ h b1 b2 b3 u d (upd (kl_joinT tr qn op q.toNatClampNeg r.toNatClampNeg n) (nI (4096 * qn + n)).toNatClampNeg (vp_nar .boolean (0 : Int32))) (nI fn) (nI qn) sd (0 : Int32)) H := hP
                            have hD : va_D _ (mW cI cZ h b1 b2 b3 u d (upd (kl_joinT tr qn op q.toNatClampNeg r.toNatClampNeg n) (nI (4096 * qn + n)).toNatClampNeg (vp_nar .boolean (0 : Int32))) (nI fn) (nI qn) sd (0 : Int32)) := hD
                            have hP := Eq.mp (congrArg (fun z9 => va_P D vwCl (mW cI cZ h b1 b2 b3 u d z9 (nI fn) (nI qn) sd (0 : Int32)) H) (show upd (kl_joinT tr qn op q.toNatClampNeg r.toNatClampNeg n) (nI (4096 * qn + n)).toNatClampNeg (vp_nar .boolean (0 : Int32)) = upd (kl_joinT tr qn op q.toNatClampNeg r.toNatClampNeg n) (4096 * qn + n) (0 : Int32) from (by rw [nI_clamp (by omega), oo_vz0]))) hP
                            have hP : va_P D vwCl (mW cI cZ h b1 b2 b3 u d (upd (kl_joinT tr qn op q.toNatClampNeg r.toNatClampNeg n) (4096 * qn + n) (0 : Int32)) (nI fn) (nI qn) sd (0 : Int32)) H := hP
                            have hD : va_D _ (mW cI cZ h b1 b2 b3 u d (upd (kl_joinT tr qn op q.toNatClampNeg r.toNatClampNeg n) (4096 * qn + n) (0 : Int32)) (nI fn) (nI qn) sd (0 : Int32)) := oo_Dre hD (oo_fc (oo_fc (oo_fc (oo_fc rfl))))
                            refine lv_iinc (v := nI (n + 1)) (lv' := [(4, .int (nI (n + 1))), (6, .int (0 : Int32)), (5, .int ((kl_joinT tr qn op q.toNatClampNeg r.toNatClampNeg n) (4096 * q.toNatClampNeg + n))), (0, .ref h), (1, .int op), (2, .int q), (3, .int r)]) hx hb dX1_join_182 hl (k := 6) rfl (oo_inc n 1) (by decide) rfl (fun ls hl => ?_)
                            refine lv_goto (tgt := 52) hx hb dX1_join_185 (by decide) ?_
                            have hl : lv_has ls 7 [(0, .ref h), (1, .int op), (2, .int q), (3, .int r), (4, .int (nI (n + 1)))] := lv_sub hl [3, 4, 5, 6, 0] rfl
                            have hP := Eq.mp (congrArg (fun z9 => va_P D vwCl (mW cI cZ h b1 b2 b3 u d z9 (nI fn) (nI qn) sd (0 : Int32)) H) (show upd (kl_joinT tr qn op q.toNatClampNeg r.toNatClampNeg n) (4096 * qn + n) (0 : Int32) = kl_joinT tr qn op q.toNatClampNeg r.toNatClampNeg (n + 1) from (by simp only [kl_joinT, kl_jv]; rw [if_neg c_71, if_pos c_81, if_pos c_107, if_neg c_112, if_pos c_117]))) hP
                            have hP : va_P D vwCl (mW cI cZ h b1 b2 b3 u d (kl_joinT tr qn op q.toNatClampNeg r.toNatClampNeg (n + 1)) (nI fn) (nI qn) sd (0 : Int32)) H := hP
                            have hD : va_D _ (mW cI cZ h b1 b2 b3 u d (kl_joinT tr qn op q.toNatClampNeg r.toNatClampNeg (n + 1)) (nI fn) (nI qn) sd (0 : Int32)) := oo_Dre hD (oo_fc (oo_fc (oo_fc (oo_fc rfl))))
                            exact ihn _ _ _ ⟨hP, hD, hS, hl⟩
                          · refine lv_iconst (v := (1 : Int32)) hx hb dX1_join_120 (by decide) ?_
                            refine lv_goto (tgt := 181) hx hb dX1_join_121 (by decide) ?_
                            refine va_zast hx hb hK hP hD hS 3 1 rfl rfl (vp_in_nI (by omega) (by omega)) dX1_join_181 (fun H locs hP hD hS => ?_)
                            have hP : va_P D vwCl (mW cI cZ h b1 b2 b3 u d (upd (kl_joinT tr qn op q.toNatClampNeg r.toNatClampNeg n) (nI (4096 * qn + n)).toNatClampNeg (vp_nar .boolean (1 : Int32))) (nI fn) (nI qn) sd (0 : Int32)) H := hP
                            have hD : va_D _ (mW cI cZ h b1 b2 b3 u d (upd (kl_joinT tr qn op q.toNatClampNeg r.toNatClampNeg n) (nI (4096 * qn + n)).toNatClampNeg (vp_nar .boolean (1 : Int32))) (nI fn) (nI qn) sd (0 : Int32)) := hD
                            have hP := Eq.mp (congrArg (fun z9 => va_P D vwCl (mW cI cZ h b1 b2 b3 u d z9 (nI fn) (nI qn) sd (0 : Int32)) H) (show upd (kl_joinT tr qn op q.toNatClampNeg r.toNatClampNeg n) (nI (4096 * qn + n)).toNatClampNeg (vp_nar .boolean (1 : Int32)) = upd (kl_joinT tr qn op q.toNatClampNeg r.toNatClampNeg n) (4096 * qn + n) (1 : Int32) from (by rw [nI_clamp (by omega), oo_vz1]))) hP
                            have hP : va_P D vwCl (mW cI cZ h b1 b2 b3 u d (upd (kl_joinT tr qn op q.toNatClampNeg r.toNatClampNeg n) (4096 * qn + n) (1 : Int32)) (nI fn) (nI qn) sd (0 : Int32)) H := hP
                            have hD : va_D _ (mW cI cZ h b1 b2 b3 u d (upd (kl_joinT tr qn op q.toNatClampNeg r.toNatClampNeg n) (4096 * qn + n) (1 : Int32)) (nI fn) (nI qn) sd (0 : Int32)) := oo_Dre hD (oo_fc (oo_fc (oo_fc (oo_fc rfl))))
                            refine lv_iinc (v := nI (n + 1)) (lv' := [(4, .int (nI (n + 1))), (6, .int (0 : Int32)), (5, .int ((kl_joinT tr qn op q.toNatClampNeg r.toNatClampNeg n) (4096 * q.toNatClampNeg + n))), (0, .ref h), (1, .int op), (2, .int q), (3, .int r)]) hx hb dX1_join_182 hl (k := 6) rfl (oo_inc n 1) (by decide) rfl (fun ls hl => ?_)
                            refine lv_goto (tgt := 52) hx hb dX1_join_185 (by decide) ?_
                            have hl : lv_has ls 7 [(0, .ref h), (1, .int op), (2, .int q), (3, .int r), (4, .int (nI (n + 1)))] := lv_sub hl [3, 4, 5, 6, 0] rfl
                            have hP := Eq.mp (congrArg (fun z9 => va_P D vwCl (mW cI cZ h b1 b2 b3 u d z9 (nI fn) (nI qn) sd (0 : Int32)) H) (show upd (kl_joinT tr qn op q.toNatClampNeg r.toNatClampNeg n) (4096 * qn + n) (1 : Int32) = kl_joinT tr qn op q.toNatClampNeg r.toNatClampNeg (n + 1) from (by simp only [kl_joinT, kl_jv]; rw [if_neg c_71, if_pos c_81, if_pos c_107, if_neg c_112, if_neg c_117]))) hP
                            have hP : va_P D vwCl (mW cI cZ h b1 b2 b3 u d (kl_joinT tr qn op q.toNatClampNeg r.toNatClampNeg (n + 1)) (nI fn) (nI qn) sd (0 : Int32)) H := hP
                            have hD : va_D _ (mW cI cZ h b1 b2 b3 u d (kl_joinT tr qn op q.toNatClampNeg r.toNatClampNeg (n + 1)) (nI fn) (nI qn) sd (0 : Int32)) := oo_Dre hD (oo_fc (oo_fc (oo_fc (oo_fc rfl))))
                            exact ihn _ _ _ ⟨hP, hD, hS, hl⟩
                    · refine lv_iconst (v := (1 : Int32)) hx hb dX1_join_84 (by decide) ?_
                      refine lv_goto (tgt := 89) hx hb dX1_join_85 (by decide) ?_
                      refine lv_istore (lv' := [(6, .int (1 : Int32)), (5, .int ((kl_joinT tr qn op q.toNatClampNeg r.toNatClampNeg n) (4096 * q.toNatClampNeg + n))), (0, .ref h), (1, .int op), (2, .int q), (3, .int r), (4, .int (nI n))]) hx hb dX1_join_89 hl (by decide) rfl (fun ls hl => ?_)
                      refine lv_aload_n hx hb dX1_join_91 rfl (lv_at hl 2 rfl) ?_
                      refine va_get (D := D) (ci := 1) (v := .ref b3) (C := RX1) (T := TX1) (N := 7) hx hb hts hin hown hK hP 0 rfl rfl 3 (by decide) (hts (.fieldLink RX1 17 "OddsSamplingModel" "truths" "[Z") (by decide +kernel)) (fun _ h9 => h9) rfl dX1_join_92 ?_
                      refine lv_sipush (v := nI 4096) hx hb dX1_join_95 (by decide) ?_
                      refine lv_aload_n hx hb dX1_join_98 rfl (lv_at hl 2 rfl) ?_
                      refine va_get (D := D) (ci := 1) (v := .int (nI qn)) (C := RX1) (T := TX1) (N := 7) hx hb hts hin hown hK hP 0 rfl rfl 4 (by decide) (hts (.fieldLink RX1 25 "OddsSamplingModel" "questions" "I") (by decide +kernel)) (fun _ h9 => h9) rfl dX1_join_99 ?_
                      refine lv_imul hx hb dX1_join_102 ?_
                      refine lv_iload hx hb dX1_join_103 (lv_at hl 6 rfl) ?_
                      refine lv_iadd hx hb dX1_join_105 ?_
                      refine oo_topI (y := nI (4096 * qn + n)) (by rw [pk_mul, nI_add]) ?_
                      refine lv_iload_n hx hb dX1_join_106 rfl (lv_at hl 3 rfl) ?_
                      refine lv_if_ne (tgt := 128) hx hb dX1_join_107 (by decide) (fun c_107 => ?_) (fun c_107 => ?_)
                      · refine lv_iload_n hx hb dX1_join_128 rfl (lv_at hl 3 rfl) ?_
                        refine lv_iconst (v := (1 : Int32)) hx hb dX1_join_129 (by decide) ?_
                        refine lv_icmp_ne (tgt := 151) hx hb dX1_join_130 (by decide) (fun c_130 => ?_) (fun c_130 => ?_)
                        · refine lv_iload_n hx hb dX1_join_151 rfl (lv_at hl 3 rfl) ?_
                          refine lv_iconst (v := (2 : Int32)) hx hb dX1_join_152 (by decide) ?_
                          refine lv_icmp_ne (tgt := 171) hx hb dX1_join_153 (by decide) (fun c_153 => ?_) (fun c_153 => ?_)
                          · refine lv_iload hx hb dX1_join_171 (lv_at hl 1 rfl) ?_
                            refine lv_if_ne (tgt := 180) hx hb dX1_join_173 (by decide) (fun c_173 => ?_) (fun c_173 => ?_)
                            · refine lv_iconst (v := (0 : Int32)) hx hb dX1_join_180 (by decide) ?_
                              refine va_zast hx hb hK hP hD hS 3 1 rfl rfl (vp_in_nI (by omega) (by omega)) dX1_join_181 (fun H locs hP hD hS => ?_)
                              have hP : va_P D vwCl (mW cI cZ h b1 b2 b3 u d (upd (kl_joinT tr qn op q.toNatClampNeg r.toNatClampNeg n) (nI (4096 * qn + n)).toNatClampNeg (vp_nar .boolean (0 : Int32))) (nI fn) (nI qn) sd (0 : Int32)) H := hP
                              have hD : va_D _ (mW cI cZ h b1 b2 b3 u d (upd (kl_joinT tr qn op q.toNatClampNeg r.toNatClampNeg n) (nI (4096 * qn + n)).toNatClampNeg (vp_nar .boolean (0 : Int32))) (nI fn) (nI qn) sd (0 : Int32)) := hD
                              have hP := Eq.mp (congrArg (fun z9 => va_P D vwCl (mW cI cZ h b1 b2 b3 u d z9 (nI fn) (nI qn) sd (0 : Int32)) H) (show upd (kl_joinT tr qn op q.toNatClampNeg r.toNatClampNeg n) (nI (4096 * qn + n)).toNatClampNeg (vp_nar .boolean (0 : Int32)) = upd (kl_joinT tr qn op q.toNatClampNeg r.toNatClampNeg n) (4096 * qn + n) (0 : Int32) from (by rw [nI_clamp (by omega), oo_vz0]))) hP
                              have hP : va_P D vwCl (mW cI cZ h b1 b2 b3 u d (upd (kl_joinT tr qn op q.toNatClampNeg r.toNatClampNeg n) (4096 * qn + n) (0 : Int32)) (nI fn) (nI qn) sd (0 : Int32)) H := hP
                              have hD : va_D _ (mW cI cZ h b1 b2 b3 u d (upd (kl_joinT tr qn op q.toNatClampNeg r.toNatClampNeg n) (4096 * qn + n) (0 : Int32)) (nI fn) (nI qn) sd (0 : Int32)) := oo_Dre hD (oo_fc (oo_fc (oo_fc (oo_fc rfl))))
                              refine lv_iinc (v := nI (n + 1)) (lv' := [(4, .int (nI (n + 1))), (6, .int (1 : Int32)), (5, .int ((kl_joinT tr qn op q.toNatClampNeg r.toNatClampNeg n) (4096 * q.toNatClampNeg + n))), (0, .ref h), (1, .int op), (2, .int q), (3, .int r)]) hx hb dX1_join_182 hl (k := 6) rfl (oo_inc n 1) (by decide) rfl (fun ls hl => ?_)
                              refine lv_goto (tgt := 52) hx hb dX1_join_185 (by decide) ?_
                              have hl : lv_has ls 7 [(0, .ref h), (1, .int op), (2, .int q), (3, .int r), (4, .int (nI (n + 1)))] := lv_sub hl [3, 4, 5, 6, 0] rfl
                              have hP := Eq.mp (congrArg (fun z9 => va_P D vwCl (mW cI cZ h b1 b2 b3 u d z9 (nI fn) (nI qn) sd (0 : Int32)) H) (show upd (kl_joinT tr qn op q.toNatClampNeg r.toNatClampNeg n) (4096 * qn + n) (0 : Int32) = kl_joinT tr qn op q.toNatClampNeg r.toNatClampNeg (n + 1) from (by simp only [kl_joinT, kl_jv]; rw [if_neg c_71, if_neg c_81, if_neg c_107, if_neg c_130, if_neg c_153, if_neg c_173]))) hP
                              have hP : va_P D vwCl (mW cI cZ h b1 b2 b3 u d (kl_joinT tr qn op q.toNatClampNeg r.toNatClampNeg (n + 1)) (nI fn) (nI qn) sd (0 : Int32)) H := hP
                              have hD : va_D _ (mW cI cZ h b1 b2 b3 u d (kl_joinT tr qn op q.toNatClampNeg r.toNatClampNeg (n + 1)) (nI fn) (nI qn) sd (0 : Int32)) := oo_Dre hD (oo_fc (oo_fc (oo_fc (oo_fc rfl))))
                              exact ihn _ _ _ ⟨hP, hD, hS, hl⟩
                            · refine lv_iconst (v := (1 : Int32)) hx hb dX1_join_176 (by decide) ?_
                              refine lv_goto (tgt := 181) hx hb dX1_join_177 (by decide) ?_
                              refine va_zast hx hb hK hP hD hS 3 1 rfl rfl (vp_in_nI (by omega) (by omega)) dX1_join_181 (fun H locs hP hD hS => ?_)
                              have hP : va_P D vwCl (mW cI cZ h b1 b2 b3 u d (upd (kl_joinT tr qn op q.toNatClampNeg r.toNatClampNeg n) (nI (4096 * qn + n)).toNatClampNeg (vp_nar .boolean (1 : Int32))) (nI fn) (nI qn) sd (0 : Int32)) H := hP
                              have hD : va_D _ (mW cI cZ h b1 b2 b3 u d (upd (kl_joinT tr qn op q.toNatClampNeg r.toNatClampNeg n) (nI (4096 * qn + n)).toNatClampNeg (vp_nar .boolean (1 : Int32))) (nI fn) (nI qn) sd (0 : Int32)) := hD
                              have hP := Eq.mp (congrArg (fun z9 => va_P D vwCl (mW cI cZ h b1 b2 b3 u d z9 (nI fn) (nI qn) sd (0 : Int32)) H) (show upd (kl_joinT tr qn op q.toNatClampNeg r.toNatClampNeg n) (nI (4096 * qn + n)).toNatClampNeg (vp_nar .boolean (1 : Int32)) = upd (kl_joinT tr qn op q.toNatClampNeg r.toNatClampNeg n) (4096 * qn + n) (1 : Int32) from (by rw [nI_clamp (by omega), oo_vz1]))) hP
                              have hP : va_P D vwCl (mW cI cZ h b1 b2 b3 u d (upd (kl_joinT tr qn op q.toNatClampNeg r.toNatClampNeg n) (4096 * qn + n) (1 : Int32)) (nI fn) (nI qn) sd (0 : Int32)) H := hP
                              have hD : va_D _ (mW cI cZ h b1 b2 b3 u d (upd (kl_joinT tr qn op q.toNatClampNeg r.toNatClampNeg n) (4096 * qn + n) (1 : Int32)) (nI fn) (nI qn) sd (0 : Int32)) := oo_Dre hD (oo_fc (oo_fc (oo_fc (oo_fc rfl))))
                              refine lv_iinc (v := nI (n + 1)) (lv' := [(4, .int (nI (n + 1))), (6, .int (1 : Int32)), (5, .int ((kl_joinT tr qn op q.toNatClampNeg r.toNatClampNeg n) (4096 * q.toNatClampNeg + n))), (0, .ref h), (1, .int op), (2, .int q), (3, .int r)]) hx hb dX1_join_182 hl (k := 6) rfl (oo_inc n 1) (by decide) rfl (fun ls hl => ?_)
                              refine lv_goto (tgt := 52) hx hb dX1_join_185 (by decide) ?_
                              have hl : lv_has ls 7 [(0, .ref h), (1, .int op), (2, .int q), (3, .int r), (4, .int (nI (n + 1)))] := lv_sub hl [3, 4, 5, 6, 0] rfl
                              have hP := Eq.mp (congrArg (fun z9 => va_P D vwCl (mW cI cZ h b1 b2 b3 u d z9 (nI fn) (nI qn) sd (0 : Int32)) H) (show upd (kl_joinT tr qn op q.toNatClampNeg r.toNatClampNeg n) (4096 * qn + n) (1 : Int32) = kl_joinT tr qn op q.toNatClampNeg r.toNatClampNeg (n + 1) from (by simp only [kl_joinT, kl_jv]; rw [if_neg c_71, if_neg c_81, if_neg c_107, if_neg c_130, if_neg c_153, if_pos c_173]))) hP
                              have hP : va_P D vwCl (mW cI cZ h b1 b2 b3 u d (kl_joinT tr qn op q.toNatClampNeg r.toNatClampNeg (n + 1)) (nI fn) (nI qn) sd (0 : Int32)) H := hP
                              have hD : va_D _ (mW cI cZ h b1 b2 b3 u d (kl_joinT tr qn op q.toNatClampNeg r.toNatClampNeg (n + 1)) (nI fn) (nI qn) sd (0 : Int32)) := oo_Dre hD (oo_fc (oo_fc (oo_fc (oo_fc rfl))))
                              exact ihn _ _ _ ⟨hP, hD, hS, hl⟩
                          · refine lv_iload hx hb dX1_join_156 (lv_at hl 1 rfl) ?_
                            refine lv_iload hx hb dX1_join_158 (lv_at hl 0 rfl) ?_
                            refine lv_icmp_eq (tgt := 167) hx hb dX1_join_160 (by decide) (fun c_160 => ?_) (fun c_160 => ?_)
                            · refine lv_iconst (v := (0 : Int32)) hx hb dX1_join_167 (by decide) ?_
                              refine lv_goto (tgt := 181) hx hb dX1_join_168 (by decide) ?_
                              refine va_zast hx hb hK hP hD hS 3 1 rfl rfl (vp_in_nI (by omega) (by omega)) dX1_join_181 (fun H locs hP hD hS => ?_)
                              have hP : va_P D vwCl (mW cI cZ h b1 b2 b3 u d (upd (kl_joinT tr qn op q.toNatClampNeg r.toNatClampNeg n) (nI (4096 * qn + n)).toNatClampNeg (vp_nar .boolean (0 : Int32))) (nI fn) (nI qn) sd (0 : Int32)) H := hP
                              have hD : va_D _ (mW cI cZ h b1 b2 b3 u d (upd (kl_joinT tr qn op q.toNatClampNeg r.toNatClampNeg n) (nI (4096 * qn + n)).toNatClampNeg (vp_nar .boolean (0 : Int32))) (nI fn) (nI qn) sd (0 : Int32)) := hD
                              have hP := Eq.mp (congrArg (fun z9 => va_P D vwCl (mW cI cZ h b1 b2 b3 u d z9 (nI fn) (nI qn) sd (0 : Int32)) H) (show upd (kl_joinT tr qn op q.toNatClampNeg r.toNatClampNeg n) (nI (4096 * qn + n)).toNatClampNeg (vp_nar .boolean (0 : Int32)) = upd (kl_joinT tr qn op q.toNatClampNeg r.toNatClampNeg n) (4096 * qn + n) (0 : Int32) from (by rw [nI_clamp (by omega), oo_vz0]))) hP
                              have hP : va_P D vwCl (mW cI cZ h b1 b2 b3 u d (upd (kl_joinT tr qn op q.toNatClampNeg r.toNatClampNeg n) (4096 * qn + n) (0 : Int32)) (nI fn) (nI qn) sd (0 : Int32)) H := hP
                              have hD : va_D _ (mW cI cZ h b1 b2 b3 u d (upd (kl_joinT tr qn op q.toNatClampNeg r.toNatClampNeg n) (4096 * qn + n) (0 : Int32)) (nI fn) (nI qn) sd (0 : Int32)) := oo_Dre hD (oo_fc (oo_fc (oo_fc (oo_fc rfl))))
                              refine lv_iinc (v := nI (n + 1)) (lv' := [(4, .int (nI (n + 1))), (6, .int (1 : Int32)), (5, .int ((kl_joinT tr qn op q.toNatClampNeg r.toNatClampNeg n) (4096 * q.toNatClampNeg + n))), (0, .ref h), (1, .int op), (2, .int q), (3, .int r)]) hx hb dX1_join_182 hl (k := 6) rfl (oo_inc n 1) (by decide) rfl (fun ls hl => ?_)
                              refine lv_goto (tgt := 52) hx hb dX1_join_185 (by decide) ?_
                              have hl : lv_has ls 7 [(0, .ref h), (1, .int op), (2, .int q), (3, .int r), (4, .int (nI (n + 1)))] := lv_sub hl [3, 4, 5, 6, 0] rfl
                              have hP := Eq.mp (congrArg (fun z9 => va_P D vwCl (mW cI cZ h b1 b2 b3 u d z9 (nI fn) (nI qn) sd (0 : Int32)) H) (show upd (kl_joinT tr qn op q.toNatClampNeg r.toNatClampNeg n) (4096 * qn + n) (0 : Int32) = kl_joinT tr qn op q.toNatClampNeg r.toNatClampNeg (n + 1) from (by simp only [kl_joinT, kl_jv]; rw [if_neg c_71, if_neg c_81, if_neg c_107, if_neg c_130, if_pos c_153, if_pos c_160]))) hP
                              have hP : va_P D vwCl (mW cI cZ h b1 b2 b3 u d (kl_joinT tr qn op q.toNatClampNeg r.toNatClampNeg (n + 1)) (nI fn) (nI qn) sd (0 : Int32)) H := hP
                              have hD : va_D _ (mW cI cZ h b1 b2 b3 u d (kl_joinT tr qn op q.toNatClampNeg r.toNatClampNeg (n + 1)) (nI fn) (nI qn) sd (0 : Int32)) := oo_Dre hD (oo_fc (oo_fc (oo_fc (oo_fc rfl))))
                              exact ihn _ _ _ ⟨hP, hD, hS, hl⟩
                            · refine lv_iconst (v := (1 : Int32)) hx hb dX1_join_163 (by decide) ?_
                              refine lv_goto (tgt := 181) hx hb dX1_join_164 (by decide) ?_
                              refine va_zast hx hb hK hP hD hS 3 1 rfl rfl (vp_in_nI (by omega) (by omega)) dX1_join_181 (fun H locs hP hD hS => ?_)
                              have hP : va_P D vwCl (mW cI cZ h b1 b2 b3 u d (upd (kl_joinT tr qn op q.toNatClampNeg r.toNatClampNeg n) (nI (4096 * qn + n)).toNatClampNeg (vp_nar .boolean (1 : Int32))) (nI fn) (nI qn) sd (0 : Int32)) H := hP
                              have hD : va_D _ (mW cI cZ h b1 b2 b3 u d (upd (kl_joinT tr qn op q.toNatClampNeg r.toNatClampNeg n) (nI (4096 * qn + n)).toNatClampNeg (vp_nar .boolean (1 : Int32))) (nI fn) (nI qn) sd (0 : Int32)) := hD
                              have hP := Eq.mp (congrArg (fun z9 => va_P D vwCl (mW cI cZ h b1 b2 b3 u d z9 (nI fn) (nI qn) sd (0 : Int32)) H) (show upd (kl_joinT tr qn op q.toNatClampNeg r.toNatClampNeg n) (nI (4096 * qn + n)).toNatClampNeg (vp_nar .boolean (1 : Int32)) = upd (kl_joinT tr qn op q.toNatClampNeg r.toNatClampNeg n) (4096 * qn + n) (1 : Int32) from (by rw [nI_clamp (by omega), oo_vz1]))) hP
                              have hP : va_P D vwCl (mW cI cZ h b1 b2 b3 u d (upd (kl_joinT tr qn op q.toNatClampNeg r.toNatClampNeg n) (4096 * qn + n) (1 : Int32)) (nI fn) (nI qn) sd (0 : Int32)) H := hP
                              have hD : va_D _ (mW cI cZ h b1 b2 b3 u d (upd (kl_joinT tr qn op q.toNatClampNeg r.toNatClampNeg n) (4096 * qn + n) (1 : Int32)) (nI fn) (nI qn) sd (0 : Int32)) := oo_Dre hD (oo_fc (oo_fc (oo_fc (oo_fc rfl))))
                              refine lv_iinc (v := nI (n + 1)) (lv' := [(4, .int (nI (n + 1))), (6, .int (1 : Int32)), (5, .int ((kl_joinT tr qn op q.toNatClampNeg r.toNatClampNeg n) (4096 * q.toNatClampNeg + n))), (0, .ref h), (1, .int op), (2, .int q), (3, .int r)]) hx hb dX1_join_182 hl (k := 6) rfl (oo_inc n 1) (by decide) rfl (fun ls hl => ?_)
                              refine lv_goto (tgt := 52) hx hb dX1_join_185 (by decide) ?_
                              have hl : lv_has ls 7 [(0, .ref h), (1, .int op), (2, .int q), (3, .int r), (4, .int (nI (n + 1)))] := lv_sub hl [3, 4, 5, 6, 0] rfl
                              have hP := Eq.mp (congrArg (fun z9 => va_P D vwCl (mW cI cZ h b1 b2 b3 u d z9 (nI fn) (nI qn) sd (0 : Int32)) H) (show upd (kl_joinT tr qn op q.toNatClampNeg r.toNatClampNeg n) (4096 * qn + n) (1 : Int32) = kl_joinT tr qn op q.toNatClampNeg r.toNatClampNeg (n + 1) from (by simp only [kl_joinT, kl_jv]; rw [if_neg c_71, if_neg c_81, if_neg c_107, if_neg c_130, if_pos c_153, if_neg c_160]))) hP
                              have hP : va_P D vwCl (mW cI cZ h b1 b2 b3 u d (kl_joinT tr qn op q.toNatClampNeg r.toNatClampNeg (n + 1)) (nI fn) (nI qn) sd (0 : Int32)) H := hP
                              have hD : va_D _ (mW cI cZ h b1 b2 b3 u d (kl_joinT tr qn op q.toNatClampNeg r.toNatClampNeg (n + 1)) (nI fn) (nI qn) sd (0 : Int32)) := oo_Dre hD (oo_fc (oo_fc (oo_fc (oo_fc rfl))))
                              exact ihn _ _ _ ⟨hP, hD, hS, hl⟩
                        · refine lv_iload hx hb dX1_join_133 (lv_at hl 1 rfl) ?_
                          refine lv_if_ne (tgt := 143) hx hb dX1_join_135 (by decide) (fun c_135 => ?_) (fun c_135 => ?_)
                          · refine lv_iconst (v := (1 : Int32)) hx hb dX1_join_143 (by decide) ?_
                            refine lv_goto (tgt := 181) hx hb dX1_join_144 (by decide) ?_
                            refine va_zast hx hb hK hP hD hS 3 1 rfl rfl (vp_in_nI (by omega) (by omega)) dX1_join_181 (fun H locs hP hD hS => ?_)
                            have hP : va_P D vwCl (mW cI cZ h b1 b2 b3 u d (upd (kl_joinT tr qn op q.toNatClampNeg r.toNatClampNeg n) (nI (4096 * qn + n)).toNatClampNeg (vp_nar .boolean (1 : Int32))) (nI fn) (nI qn) sd (0 : Int32)) H := hP
                            have hD : va_D _ (mW cI cZ h b1 b2 b3 u d (upd (kl_joinT tr qn op q.toNatClampNeg r.toNatClampNeg n) (nI (4096 * qn + n)).toNatClampNeg (vp_nar .boolean (1 : Int32))) (nI fn) (nI qn) sd (0 : Int32)) := hD
                            have hP := Eq.mp (congrArg (fun z9 => va_P D vwCl (mW cI cZ h b1 b2 b3 u d z9 (nI fn) (nI qn) sd (0 : Int32)) H) (show upd (kl_joinT tr qn op q.toNatClampNeg r.toNatClampNeg n) (nI (4096 * qn + n)).toNatClampNeg (vp_nar .boolean (1 : Int32)) = upd (kl_joinT tr qn op q.toNatClampNeg r.toNatClampNeg n) (4096 * qn + n) (1 : Int32) from (by rw [nI_clamp (by omega), oo_vz1]))) hP
                            have hP : va_P D vwCl (mW cI cZ h b1 b2 b3 u d (upd (kl_joinT tr qn op q.toNatClampNeg r.toNatClampNeg n) (4096 * qn + n) (1 : Int32)) (nI fn) (nI qn) sd (0 : Int32)) H := hP
                            have hD : va_D _ (mW cI cZ h b1 b2 b3 u d (upd (kl_joinT tr qn op q.toNatClampNeg r.toNatClampNeg n) (4096 * qn + n) (1 : Int32)) (nI fn) (nI qn) sd (0 : Int32)) := oo_Dre hD (oo_fc (oo_fc (oo_fc (oo_fc rfl))))
                            refine lv_iinc (v := nI (n + 1)) (lv' := [(4, .int (nI (n + 1))), (6, .int (1 : Int32)), (5, .int ((kl_joinT tr qn op q.toNatClampNeg r.toNatClampNeg n) (4096 * q.toNatClampNeg + n))), (0, .ref h), (1, .int op), (2, .int q), (3, .int r)]) hx hb dX1_join_182 hl (k := 6) rfl (oo_inc n 1) (by decide) rfl (fun ls hl => ?_)
                            refine lv_goto (tgt := 52) hx hb dX1_join_185 (by decide) ?_
                            have hl : lv_has ls 7 [(0, .ref h), (1, .int op), (2, .int q), (3, .int r), (4, .int (nI (n + 1)))] := lv_sub hl [3, 4, 5, 6, 0] rfl
                            have hP := Eq.mp (congrArg (fun z9 => va_P D vwCl (mW cI cZ h b1 b2 b3 u d z9 (nI fn) (nI qn) sd (0 : Int32)) H) (show upd (kl_joinT tr qn op q.toNatClampNeg r.toNatClampNeg n) (4096 * qn + n) (1 : Int32) = kl_joinT tr qn op q.toNatClampNeg r.toNatClampNeg (n + 1) from (by simp only [kl_joinT, kl_jv]; rw [if_neg c_71, if_neg c_81, if_neg c_107, if_pos c_130, if_neg c_135]))) hP
                            have hP : va_P D vwCl (mW cI cZ h b1 b2 b3 u d (kl_joinT tr qn op q.toNatClampNeg r.toNatClampNeg (n + 1)) (nI fn) (nI qn) sd (0 : Int32)) H := hP
                            have hD : va_D _ (mW cI cZ h b1 b2 b3 u d (kl_joinT tr qn op q.toNatClampNeg r.toNatClampNeg (n + 1)) (nI fn) (nI qn) sd (0 : Int32)) := oo_Dre hD (oo_fc (oo_fc (oo_fc (oo_fc rfl))))
                            exact ihn _ _ _ ⟨hP, hD, hS, hl⟩
                          · refine lv_iload hx hb dX1_join_138 (lv_at hl 0 rfl) ?_
                            refine lv_if_eq (tgt := 147) hx hb dX1_join_140 (by decide) (fun c_140 => ?_) (fun c_140 => ?_)
                            · refine lv_iconst (v := (0 : Int32)) hx hb dX1_join_147 (by decide) ?_
                              refine lv_goto (tgt := 181) hx hb dX1_join_148 (by decide) ?_
                              refine va_zast hx hb hK hP hD hS 3 1 rfl rfl (vp_in_nI (by omega) (by omega)) dX1_join_181 (fun H locs hP hD hS => ?_)
                              have hP : va_P D vwCl (mW cI cZ h b1 b2 b3 u d (upd (kl_joinT tr qn op q.toNatClampNeg r.toNatClampNeg n) (nI (4096 * qn + n)).toNatClampNeg (vp_nar .boolean (0 : Int32))) (nI fn) (nI qn) sd (0 : Int32)) H := hP
                              have hD : va_D _ (mW cI cZ h b1 b2 b3 u d (upd (kl_joinT tr qn op q.toNatClampNeg r.toNatClampNeg n) (nI (4096 * qn + n)).toNatClampNeg (vp_nar .boolean (0 : Int32))) (nI fn) (nI qn) sd (0 : Int32)) := hD
                              have hP := Eq.mp (congrArg (fun z9 => va_P D vwCl (mW cI cZ h b1 b2 b3 u d z9 (nI fn) (nI qn) sd (0 : Int32)) H) (show upd (kl_joinT tr qn op q.toNatClampNeg r.toNatClampNeg n) (nI (4096 * qn + n)).toNatClampNeg (vp_nar .boolean (0 : Int32)) = upd (kl_joinT tr qn op q.toNatClampNeg r.toNatClampNeg n) (4096 * qn + n) (0 : Int32) from (by rw [nI_clamp (by omega), oo_vz0]))) hP
                              have hP : va_P D vwCl (mW cI cZ h b1 b2 b3 u d (upd (kl_joinT tr qn op q.toNatClampNeg r.toNatClampNeg n) (4096 * qn + n) (0 : Int32)) (nI fn) (nI qn) sd (0 : Int32)) H := hP
                              have hD : va_D _ (mW cI cZ h b1 b2 b3 u d (upd (kl_joinT tr qn op q.toNatClampNeg r.toNatClampNeg n) (4096 * qn + n) (0 : Int32)) (nI fn) (nI qn) sd (0 : Int32)) := oo_Dre hD (oo_fc (oo_fc (oo_fc (oo_fc rfl))))
                              refine lv_iinc (v := nI (n + 1)) (lv' := [(4, .int (nI (n + 1))), (6, .int (1 : Int32)), (5, .int ((kl_joinT tr qn op q.toNatClampNeg r.toNatClampNeg n) (4096 * q.toNatClampNeg + n))), (0, .ref h), (1, .int op), (2, .int q), (3, .int r)]) hx hb dX1_join_182 hl (k := 6) rfl (oo_inc n 1) (by decide) rfl (fun ls hl => ?_)
                              refine lv_goto (tgt := 52) hx hb dX1_join_185 (by decide) ?_
                              have hl : lv_has ls 7 [(0, .ref h), (1, .int op), (2, .int q), (3, .int r), (4, .int (nI (n + 1)))] := lv_sub hl [3, 4, 5, 6, 0] rfl
                              have hP := Eq.mp (congrArg (fun z9 => va_P D vwCl (mW cI cZ h b1 b2 b3 u d z9 (nI fn) (nI qn) sd (0 : Int32)) H) (show upd (kl_joinT tr qn op q.toNatClampNeg r.toNatClampNeg n) (4096 * qn + n) (0 : Int32) = kl_joinT tr qn op q.toNatClampNeg r.toNatClampNeg (n + 1) from (by simp only [kl_joinT, kl_jv]; rw [if_neg c_71, if_neg c_81, if_neg c_107, if_pos c_130, if_pos c_135, if_pos c_140]))) hP
                              have hP : va_P D vwCl (mW cI cZ h b1 b2 b3 u d (kl_joinT tr qn op q.toNatClampNeg r.toNatClampNeg (n + 1)) (nI fn) (nI qn) sd (0 : Int32)) H := hP
                              have hD : va_D _ (mW cI cZ h b1 b2 b3 u d (kl_joinT tr qn op q.toNatClampNeg r.toNatClampNeg (n + 1)) (nI fn) (nI qn) sd (0 : Int32)) := oo_Dre hD (oo_fc (oo_fc (oo_fc (oo_fc rfl))))
                              exact ihn _ _ _ ⟨hP, hD, hS, hl⟩
                            · refine lv_iconst (v := (1 : Int32)) hx hb dX1_join_143 (by decide) ?_
                              refine lv_goto (tgt := 181) hx hb dX1_join_144 (by decide) ?_
                              refine va_zast hx hb hK hP hD hS 3 1 rfl rfl (vp_in_nI (by omega) (by omega)) dX1_join_181 (fun H locs hP hD hS => ?_)
                              have hP : va_P D vwCl (mW cI cZ h b1 b2 b3 u d (upd (kl_joinT tr qn op q.toNatClampNeg r.toNatClampNeg n) (nI (4096 * qn + n)).toNatClampNeg (vp_nar .boolean (1 : Int32))) (nI fn) (nI qn) sd (0 : Int32)) H := hP
                              have hD : va_D _ (mW cI cZ h b1 b2 b3 u d (upd (kl_joinT tr qn op q.toNatClampNeg r.toNatClampNeg n) (nI (4096 * qn + n)).toNatClampNeg (vp_nar .boolean (1 : Int32))) (nI fn) (nI qn) sd (0 : Int32)) := hD
                              have hP := Eq.mp (congrArg (fun z9 => va_P D vwCl (mW cI cZ h b1 b2 b3 u d z9 (nI fn) (nI qn) sd (0 : Int32)) H) (show upd (kl_joinT tr qn op q.toNatClampNeg r.toNatClampNeg n) (nI (4096 * qn + n)).toNatClampNeg (vp_nar .boolean (1 : Int32)) = upd (kl_joinT tr qn op q.toNatClampNeg r.toNatClampNeg n) (4096 * qn + n) (1 : Int32) from (by rw [nI_clamp (by omega), oo_vz1]))) hP
                              have hP : va_P D vwCl (mW cI cZ h b1 b2 b3 u d (upd (kl_joinT tr qn op q.toNatClampNeg r.toNatClampNeg n) (4096 * qn + n) (1 : Int32)) (nI fn) (nI qn) sd (0 : Int32)) H := hP
                              have hD : va_D _ (mW cI cZ h b1 b2 b3 u d (upd (kl_joinT tr qn op q.toNatClampNeg r.toNatClampNeg n) (4096 * qn + n) (1 : Int32)) (nI fn) (nI qn) sd (0 : Int32)) := oo_Dre hD (oo_fc (oo_fc (oo_fc (oo_fc rfl))))
                              refine lv_iinc (v := nI (n + 1)) (lv' := [(4, .int (nI (n + 1))), (6, .int (1 : Int32)), (5, .int ((kl_joinT tr qn op q.toNatClampNeg r.toNatClampNeg n) (4096 * q.toNatClampNeg + n))), (0, .ref h), (1, .int op), (2, .int q), (3, .int r)]) hx hb dX1_join_182 hl (k := 6) rfl (oo_inc n 1) (by decide) rfl (fun ls hl => ?_)
                              refine lv_goto (tgt := 52) hx hb dX1_join_185 (by decide) ?_
                              have hl : lv_has ls 7 [(0, .ref h), (1, .int op), (2, .int q), (3, .int r), (4, .int (nI (n + 1)))] := lv_sub hl [3, 4, 5, 6, 0] rfl
                              have hP := Eq.mp (congrArg (fun z9 => va_P D vwCl (mW cI cZ h b1 b2 b3 u d z9 (nI fn) (nI qn) sd (0 : Int32)) H) (show upd (kl_joinT tr qn op q.toNatClampNeg r.toNatClampNeg n) (4096 * qn + n) (1 : Int32) = kl_joinT tr qn op q.toNatClampNeg r.toNatClampNeg (n + 1) from (by simp only [kl_joinT, kl_jv]; rw [if_neg c_71, if_neg c_81, if_neg c_107, if_pos c_130, if_pos c_135, if_neg c_140]))) hP
                              have hP : va_P D vwCl (mW cI cZ h b1 b2 b3 u d (kl_joinT tr qn op q.toNatClampNeg r.toNatClampNeg (n + 1)) (nI fn) (nI qn) sd (0 : Int32)) H := hP
                              have hD : va_D _ (mW cI cZ h b1 b2 b3 u d (kl_joinT tr qn op q.toNatClampNeg r.toNatClampNeg (n + 1)) (nI fn) (nI qn) sd (0 : Int32)) := oo_Dre hD (oo_fc (oo_fc (oo_fc (oo_fc rfl))))
                              exact ihn _ _ _ ⟨hP, hD, hS, hl⟩
                      · refine lv_iload hx hb dX1_join_110 (lv_at hl 1 rfl) ?_
                        refine lv_if_eq (tgt := 124) hx hb dX1_join_112 (by decide) (fun c_112 => ?_) (fun c_112 => ?_)
                        · refine lv_iconst (v := (0 : Int32)) hx hb dX1_join_124 (by decide) ?_
                          refine lv_goto (tgt := 181) hx hb dX1_join_125 (by decide) ?_
                          refine va_zast hx hb hK hP hD hS 3 1 rfl rfl (vp_in_nI (by omega) (by omega)) dX1_join_181 (fun H locs hP hD hS => ?_)
                          have hP : va_P D vwCl (mW cI cZ h b1 b2 b3 u d (upd (kl_joinT tr qn op q.toNatClampNeg r.toNatClampNeg n) (nI (4096 * qn + n)).toNatClampNeg (vp_nar .boolean (0 : Int32))) (nI fn) (nI qn) sd (0 : Int32)) H := hP
                          have hD : va_D _ (mW cI cZ h b1 b2 b3 u d (upd (kl_joinT tr qn op q.toNatClampNeg r.toNatClampNeg n) (nI (4096 * qn + n)).toNatClampNeg (vp_nar .boolean (0 : Int32))) (nI fn) (nI qn) sd (0 : Int32)) := hD
                          have hP := Eq.mp (congrArg (fun z9 => va_P D vwCl (mW cI cZ h b1 b2 b3 u d z9 (nI fn) (nI qn) sd (0 : Int32)) H) (show upd (kl_joinT tr qn op q.toNatClampNeg r.toNatClampNeg n) (nI (4096 * qn + n)).toNatClampNeg (vp_nar .boolean (0 : Int32)) = upd (kl_joinT tr qn op q.toNatClampNeg r.toNatClampNeg n) (4096 * qn + n) (0 : Int32) from (by rw [nI_clamp (by omega), oo_vz0]))) hP
                          have hP : va_P D vwCl (mW cI cZ h b1 b2 b3 u d (upd (kl_joinT tr qn op q.toNatClampNeg r.toNatClampNeg n) (4096 * qn + n) (0 : Int32)) (nI fn) (nI qn) sd (0 : Int32)) H := hP
                          have hD : va_D _ (mW cI cZ h b1 b2 b3 u d (upd (kl_joinT tr qn op q.toNatClampNeg r.toNatClampNeg n) (4096 * qn + n) (0 : Int32)) (nI fn) (nI qn) sd (0 : Int32)) := oo_Dre hD (oo_fc (oo_fc (oo_fc (oo_fc rfl))))
                          refine lv_iinc (v := nI (n + 1)) (lv' := [(4, .int (nI (n + 1))), (6, .int (1 : Int32)), (5, .int ((kl_joinT tr qn op q.toNatClampNeg r.toNatClampNeg n) (4096 * q.toNatClampNeg + n))), (0, .ref h), (1, .int op), (2, .int q), (3, .int r)]) hx hb dX1_join_182 hl (k := 6) rfl (oo_inc n 1) (by decide) rfl (fun ls hl => ?_)
                          refine lv_goto (tgt := 52) hx hb dX1_join_185 (by decide) ?_
                          have hl : lv_has ls 7 [(0, .ref h), (1, .int op), (2, .int q), (3, .int r), (4, .int (nI (n + 1)))] := lv_sub hl [3, 4, 5, 6, 0] rfl
                          have hP := Eq.mp (congrArg (fun z9 => va_P D vwCl (mW cI cZ h b1 b2 b3 u d z9 (nI fn) (nI qn) sd (0 : Int32)) H) (show upd (kl_joinT tr qn op q.toNatClampNeg r.toNatClampNeg n) (4096 * qn + n) (0 : Int32) = kl_joinT tr qn op q.toNatClampNeg r.toNatClampNeg (n + 1) from (by simp only [kl_joinT, kl_jv]; rw [if_neg c_71, if_neg c_81, if_pos c_107, if_pos c_112]))) hP
                          have hP : va_P D vwCl (mW cI cZ h b1 b2 b3 u d (kl_joinT tr qn op q.toNatClampNeg r.toNatClampNeg (n + 1)) (nI fn) (nI qn) sd (0 : Int32)) H := hP
                          have hD : va_D _ (mW cI cZ h b1 b2 b3 u d (kl_joinT tr qn op q.toNatClampNeg r.toNatClampNeg (n + 1)) (nI fn) (nI qn) sd (0 : Int32)) := oo_Dre hD (oo_fc (oo_fc (oo_fc (oo_fc rfl))))
                          exact ihn _ _ _ ⟨hP, hD, hS, hl⟩
                        · refine lv_iload hx hb dX1_join_115 (lv_at hl 0 rfl) ?_
                          refine lv_if_eq (tgt := 124) hx hb dX1_join_117 (by decide) (fun c_117 => ?_) (fun c_117 => ?_)
                          · refine lv_iconst (v := (0 : Int32)) hx hb dX1_join_124 (by decide) ?_
                            refine lv_goto (tgt := 181) hx hb dX1_join_125 (by decide) ?_
                            refine va_zast hx hb hK hP hD hS 3 1 rfl rfl (vp_in_nI (by omega) (by omega)) dX1_join_181 (fun H locs hP hD hS => ?_)
                            have hP : va_P D vwCl (mW cI cZ h b1 b2 b3 u d (upd (kl_joinT tr qn op q.toNatClampNeg r.toNatClampNeg n) (nI (4096 * qn + n)).toNatClampNeg (vp_nar .boolean (0 : Int32))) (nI fn) (nI qn) sd (0 : Int32)) H := hP
                            have hD : va_D _ (mW cI cZ h b1 b2 b3 u d (upd (kl_joinT tr qn op q.toNatClampNeg r.toNatClampNeg n) (nI (4096 * qn + n)).toNatClampNeg (vp_nar .boolean (0 : Int32))) (nI fn) (nI qn) sd (0 : Int32)) := hD
                            have hP := Eq.mp (congrArg (fun z9 => va_P D vwCl (mW cI cZ h b1 b2 b3 u d z9 (nI fn) (nI qn) sd (0 : Int32)) H) (show upd (kl_joinT tr qn op q.toNatClampNeg r.toNatClampNeg n) (nI (4096 * qn + n)).toNatClampNeg (vp_nar .boolean (0 : Int32)) = upd (kl_joinT tr qn op q.toNatClampNeg r.toNatClampNeg n) (4096 * qn + n) (0 : Int32) from (by rw [nI_clamp (by omega), oo_vz0]))) hP
                            have hP : va_P D vwCl (mW cI cZ h b1 b2 b3 u d (upd (kl_joinT tr qn op q.toNatClampNeg r.toNatClampNeg n) (4096 * qn + n) (0 : Int32)) (nI fn) (nI qn) sd (0 : Int32)) H := hP
                            have hD : va_D _ (mW cI cZ h b1 b2 b3 u d (upd (kl_joinT tr qn op q.toNatClampNeg r.toNatClampNeg n) (4096 * qn + n) (0 : Int32)) (nI fn) (nI qn) sd (0 : Int32)) := oo_Dre hD (oo_fc (oo_fc (oo_fc (oo_fc rfl))))
                            refine lv_iinc (v := nI (n + 1)) (lv' := [(4, .int (nI (n + 1))), (6, .int (1 : Int32)), (5, .int ((kl_joinT tr qn op q.toNatClampNeg r.toNatClampNeg n) (4096 * q.toNatClampNeg + n))), (0, .ref h), (1, .int op), (2, .int q), (3, .int r)]) hx hb dX1_join_182 hl (k := 6) rfl (oo_inc n 1) (by decide) rfl (fun ls hl => ?_)
                            refine lv_goto (tgt := 52) hx hb dX1_join_185 (by decide) ?_
                            have hl : lv_has ls 7 [(0, .ref h), (1, .int op), (2, .int q), (3, .int r), (4, .int (nI (n + 1)))] := lv_sub hl [3, 4, 5, 6, 0] rfl
                            have hP := Eq.mp (congrArg (fun z9 => va_P D vwCl (mW cI cZ h b1 b2 b3 u d z9 (nI fn) (nI qn) sd (0 : Int32)) H) (show upd (kl_joinT tr qn op q.toNatClampNeg r.toNatClampNeg n) (4096 * qn + n) (0 : Int32) = kl_joinT tr qn op q.toNatClampNeg r.toNatClampNeg (n + 1) from (by simp only [kl_joinT, kl_jv]; rw [if_neg c_71, if_neg c_81, if_pos c_107, if_neg c_112, if_pos c_117]))) hP
                            have hP : va_P D vwCl (mW cI cZ h b1 b2 b3 u d (kl_joinT tr qn op q.toNatClampNeg r.toNatClampNeg (n + 1)) (nI fn) (nI qn) sd (0 : Int32)) H := hP
                            have hD : va_D _ (mW cI cZ h b1 b2 b3 u d (kl_joinT tr qn op q.toNatClampNeg r.toNatClampNeg (n + 1)) (nI fn) (nI qn) sd (0 : Int32)) := oo_Dre hD (oo_fc (oo_fc (oo_fc (oo_fc rfl))))
                            exact ihn _ _ _ ⟨hP, hD, hS, hl⟩
                          · refine lv_iconst (v := (1 : Int32)) hx hb dX1_join_120 (by decide) ?_
                            refine lv_goto (tgt := 181) hx hb dX1_join_121 (by decide) ?_
                            refine va_zast hx hb hK hP hD hS 3 1 rfl rfl (vp_in_nI (by omega) (by omega)) dX1_join_181 (fun H locs hP hD hS => ?_)
                            have hP : va_P D vwCl (mW cI cZ h b1 b2 b3 u d (upd (kl_joinT tr qn op q.toNatClampNeg r.toNatClampNeg n) (nI (4096 * qn + n)).toNatClampNeg (vp_nar .boolean (1 : Int32))) (nI fn) (nI qn) sd (0 : Int32)) H := hP
                            have hD : va_D _ (mW cI cZ h b1 b2 b3 u d (upd (kl_joinT tr qn op q.toNatClampNeg r.toNatClampNeg n) (nI (4096 * qn + n)).toNatClampNeg (vp_nar .boolean (1 : Int32))) (nI fn) (nI qn) sd (0 : Int32)) := hD
                            have hP := Eq.mp (congrArg (fun z9 => va_P D vwCl (mW cI cZ h b1 b2 b3 u d z9 (nI fn) (nI qn) sd (0 : Int32)) H) (show upd (kl_joinT tr qn op q.toNatClampNeg r.toNatClampNeg n) (nI (4096 * qn + n)).toNatClampNeg (vp_nar .boolean (1 : Int32)) = upd (kl_joinT tr qn op q.toNatClampNeg r.toNatClampNeg n) (4096 * qn + n) (1 : Int32) from (by rw [nI_clamp (by omega), oo_vz1]))) hP
                            have hP : va_P D vwCl (mW cI cZ h b1 b2 b3 u d (upd (kl_joinT tr qn op q.toNatClampNeg r.toNatClampNeg n) (4096 * qn + n) (1 : Int32)) (nI fn) (nI qn) sd (0 : Int32)) H := hP
                            have hD : va_D _ (mW cI cZ h b1 b2 b3 u d (upd (kl_joinT tr qn op q.toNatClampNeg r.toNatClampNeg n) (4096 * qn + n) (1 : Int32)) (nI fn) (nI qn) sd (0 : Int32)) := oo_Dre hD (oo_fc (oo_fc (oo_fc (oo_fc rfl))))
                            refine lv_iinc (v := nI (n + 1)) (lv' := [(4, .int (nI (n + 1))), (6, .int (1 : Int32)), (5, .int ((kl_joinT tr qn op q.toNatClampNeg r.toNatClampNeg n) (4096 * q.toNatClampNeg + n))), (0, .ref h), (1, .int op), (2, .int q), (3, .int r)]) hx hb dX1_join_182 hl (k := 6) rfl (oo_inc n 1) (by decide) rfl (fun ls hl => ?_)
                            refine lv_goto (tgt := 52) hx hb dX1_join_185 (by decide) ?_
                            have hl : lv_has ls 7 [(0, .ref h), (1, .int op), (2, .int q), (3, .int r), (4, .int (nI (n + 1)))] := lv_sub hl [3, 4, 5, 6, 0] rfl
                            have hP := Eq.mp (congrArg (fun z9 => va_P D vwCl (mW cI cZ h b1 b2 b3 u d z9 (nI fn) (nI qn) sd (0 : Int32)) H) (show upd (kl_joinT tr qn op q.toNatClampNeg r.toNatClampNeg n) (4096 * qn + n) (1 : Int32) = kl_joinT tr qn op q.toNatClampNeg r.toNatClampNeg (n + 1) from (by simp only [kl_joinT, kl_jv]; rw [if_neg c_71, if_neg c_81, if_pos c_107, if_neg c_112, if_neg c_117]))) hP
                            have hP : va_P D vwCl (mW cI cZ h b1 b2 b3 u d (kl_joinT tr qn op q.toNatClampNeg r.toNatClampNeg (n + 1)) (nI fn) (nI qn) sd (0 : Int32)) H := hP
                            have hD : va_D _ (mW cI cZ h b1 b2 b3 u d (kl_joinT tr qn op q.toNatClampNeg r.toNatClampNeg (n + 1)) (nI fn) (nI qn) sd (0 : Int32)) := oo_Dre hD (oo_fc (oo_fc (oo_fc (oo_fc rfl))))
                            exact ihn _ _ _ ⟨hP, hD, hS, hl⟩
            · refine lv_bipush (v := (-3 : Int32)) hx hb dX1_join_46 (by decide) ?_
              have hP := Eq.mp (congrArg (fun z9 => va_P D vwCl (mW cI cZ h b1 b2 b3 u d tr (nI fn) z9 sd (0 : Int32)) H) (show nI qn = kvX1_join_qc qn op q r from (by unfold kvX1_join_qc; rw [if_neg c_6, if_neg c_11, if_neg c_19, if_neg c_24, if_neg c_32, if_pos c_43]))) hP
              have hP := Eq.mp (congrArg (fun z9 => va_P D vwCl (mW cI cZ h b1 b2 b3 u d z9 (nI fn) (kvX1_join_qc qn op q r) sd (0 : Int32)) H) (show tr = kvX1_join_tr tr qn op q r from (by unfold kvX1_join_tr; rw [if_neg c_6, if_neg c_11, if_neg c_19, if_neg c_24, if_neg c_32, if_pos c_43]))) hP
              have hP : va_P D vwCl (mW cI cZ h b1 b2 b3 u d (kvX1_join_tr tr qn op q r) (nI fn) (kvX1_join_qc qn op q r) sd (0 : Int32)) H := hP
              have hD : va_D _ (mW cI cZ h b1 b2 b3 u d (kvX1_join_tr tr qn op q r) (nI fn) (kvX1_join_qc qn op q r) sd (0 : Int32)) := oo_Dre hD (oo_fc (oo_fc (oo_fc (oo_fc rfl))))
              exact mu_reti hx hb hr hlocks hP hD hS (by unfold kvX1_join; rw [if_neg c_6, if_neg c_11, if_neg c_19, if_neg c_24, if_neg c_32, if_pos c_43]) dX1_join_48
          · refine lv_iconst (v := (-1 : Int32)) hx hb dX1_join_35 (by decide) ?_
            have hP := Eq.mp (congrArg (fun z9 => va_P D vwCl (mW cI cZ h b1 b2 b3 u d tr (nI fn) z9 sd (0 : Int32)) H) (show nI qn = kvX1_join_qc qn op q r from (by unfold kvX1_join_qc; rw [if_neg c_6, if_neg c_11, if_neg c_19, if_neg c_24, if_pos c_32]))) hP
            have hP := Eq.mp (congrArg (fun z9 => va_P D vwCl (mW cI cZ h b1 b2 b3 u d z9 (nI fn) (kvX1_join_qc qn op q r) sd (0 : Int32)) H) (show tr = kvX1_join_tr tr qn op q r from (by unfold kvX1_join_tr; rw [if_neg c_6, if_neg c_11, if_neg c_19, if_neg c_24, if_pos c_32]))) hP
            have hP : va_P D vwCl (mW cI cZ h b1 b2 b3 u d (kvX1_join_tr tr qn op q r) (nI fn) (kvX1_join_qc qn op q r) sd (0 : Int32)) H := hP
            have hD : va_D _ (mW cI cZ h b1 b2 b3 u d (kvX1_join_tr tr qn op q r) (nI fn) (kvX1_join_qc qn op q r) sd (0 : Int32)) := oo_Dre hD (oo_fc (oo_fc (oo_fc (oo_fc rfl))))
            exact mu_reti hx hb hr hlocks hP hD hS (by unfold kvX1_join; rw [if_neg c_6, if_neg c_11, if_neg c_19, if_neg c_24, if_pos c_32]) dX1_join_36
theorem ok_X1_holds : yX1_holds.cls = RX1 ∧ yX1_holds.cls ≠ "java/lang/invoke/MethodHandle" ∧ yX1_holds.cls ≠ "java/lang/invoke/VarHandle" ∧ (parseMethodDescriptor yX1_holds.desc).map (fun d => d.parameters.length) = some 2 := by decide +kernel
theorem oo_mask {fn : Nat} (hfn : fn ≤ 12) (w : Int32) : w &&& (nI (2 ^ fn) - 1) = nI (w &&& (nI (2 ^ fn) - 1)).toNatClampNeg ∧ (w &&& (nI (2 ^ fn) - 1)).toNatClampNeg < 2 ^ fn := by
  have h2 : 2 ^ fn ≤ 2 ^ 12 := Nat.pow_le_pow_right (by omega) hfn
  have h3 : 0 < 2 ^ fn := Nat.two_pow_pos fn
  have e1 : nI (2 ^ fn) - 1 = nI (2 ^ fn - 1) := pk_sub (a := 2 ^ fn) (b := 1) h3
  rw [e1]
  obtain ⟨j, hj, e⟩ := pk_andE w (m := nI (2 ^ fn - 1)) fn (by rw [pk_tn (by omega)])
  rw [e, nI_clamp (by omega)]
  exact ⟨rfl, hj⟩
def kvX1_holds (tr : Nat → Int32) (fn : Nat) (qn : Nat) (q : Int32) (w : Int32) : Int32 := if (kvX1_isQuestion qn q) = 0 then (-1 : Int32) else (if (tr (4096 * q.toNatClampNeg + ((w &&& (nI (2 ^ fn) - 1)).toNatClampNeg))) = 0 then (0 : Int32) else (1 : Int32))
set_option maxHeartbeats 4000000 in
set_option maxRecDepth 100000 in
theorem kX1_holds (l : Launch) (D : va_G) (cI : ClassId) (cZ : ClassId) (h b1 b2 b3 : Nat) (u d tr : Nat → Int32) (fn qn : Nat) (sd : Int64) (th : Int32) (q : Int32) (w : Int32) (hfn : fn ≤ 12) (hqn : qn ≤ 40) (h01 : oo_01 tr) : MuI l yX1_holds wsX1_holds ({ frames := 1, cells := 0, slots := 0, locals := 22 } : Room) [.ref h, .int q, .int w] D (mW cI cZ h b1 b2 b3 u d tr (nI fn) (nI qn) sd th) [(cI, .int), (cZ, .boolean)] (mW cI cZ h b1 b2 b3 u d tr (nI fn) (nI qn) sd (0 : Int32)) (kvX1_holds tr fn qn q w) := by
  intro sz
  refine oo_head (C := RX1) (cc := cX1_holds) (maxL := 3) (ret := (some .int)) (by decide) rfl rfl (Nat.le_of_ble_eq_true rfl) ?_
  intro p e s m below meth c hx hb hr hlocks hml hown hnm hts hpre ls hl
  have hl : lv_has ls 3 [(0, .ref h), (1, .int q), (2, .int w)] := hl
  obtain ⟨rfl, hP, hK, hD0⟩ := hpre
  have hD := hD0.self (sz := s.heap.size)
  have hA := oo_A (mW cI cZ h b1 b2 b3 u d tr (nI fn) (nI qn) sd th) s
  have hS : va_S (va_A (mW cI cZ h b1 b2 b3 u d tr (nI fn) (nI qn) sd th) s.heap.size) s.heap s.heap [] := va_S.rf
  have hin : ∀ w ∈ wsX10, w ∈ wsX1_holds := fun w h => List.mem_cons_of_mem _ (List.mem_append_right _ h)
  refine lv_aload_n hx hb dX1_holds_0 rfl (lv_at hl 0 rfl) ?_
  refine lv_iconst (v := (0 : Int32)) hx hb dX1_holds_1 (by decide) ?_
  refine va_put (D := D) (ci := 1) (v := .int (0 : Int32)) (ty := .int) (C := RX1) (T := TX1) (N := 7) hx hb hts hin tyX1 tyX1_ok nmX1 hown hK hP hD hS 0 rfl rfl 6 (by decide) (hts (.fieldLink RX1 21 "OddsSamplingModel" "thrown" "I") (by decide +kernel)) (fun _ h9 => h9) rfl (by decide +kernel) rfl rfl (Nat.le_of_ble_eq_true rfl) dX1_holds_2 (fun H locs hP hD hS => ?_)
  have hP : va_P D vwCl (mW cI cZ h b1 b2 b3 u d tr (nI fn) (nI qn) sd (0 : Int32)) H := hP
  have hD : va_D _ (mW cI cZ h b1 b2 b3 u d tr (nI fn) (nI qn) sd (0 : Int32)) := hD
  refine lv_aload_n hx hb dX1_holds_5 rfl (lv_at hl 0 rfl) ?_
  refine lv_iload_n hx hb dX1_holds_6 rfl (lv_at hl 1 rfl) ?_
  refine ro_calli (va_runV (As := [.int q]) (rest := []) ⟨hx, hb, hml, hown, hts⟩ (kX1_isQuestion l D cI cZ h b1 b2 b3 u d tr fn qn sd (0 : Int32) q) (cwV 1 hts gX1_holds_X1_isQuestion rfl rfl rfl ok_X1_isQuestion ⟨Nat.le_of_ble_eq_true rfl, Nat.le_of_ble_eq_true rfl⟩) ⟨oo_blind, va_recv hK hP (ci := 1) (q0 := 0) rfl rfl, oo_ps hP hK [0, 1, 2, 3] rfl [0, 1] rfl⟩ rfl rfl hl.1 rfl (lv_room (Nat.le_of_ble_eq_true rfl)) dX1_holds_7 ⟨Nat.le_of_ble_eq_true rfl, Nat.le_of_ble_eq_true rfl⟩) hP hS (fun H locs hP hS => ?_)
  refine lv_if_ne (tgt := 17) hx hb dX1_holds_10 (by decide) (fun c_10 => ?_) (fun c_10 => ?_)
  · obtain ⟨hq1, hq2⟩ := oo_isQ hqn c_10
    have h2n : 2 ^ fn ≤ 2 ^ 12 := Nat.pow_le_pow_right (by omega) hfn
    refine lv_aload_n hx hb dX1_holds_17 rfl (lv_at hl 0 rfl) ?_
    refine lv_iload_n hx hb dX1_holds_18 rfl (lv_at hl 1 rfl) ?_
    refine oo_topI (y := nI q.toNatClampNeg) hq1 ?_
    refine lv_iload_n hx hb dX1_holds_19 rfl (lv_at hl 2 rfl) ?_
    refine lv_iconst (v := (1 : Int32)) hx hb dX1_holds_20 (by decide) ?_
    refine lv_aload_n hx hb dX1_holds_21 rfl (lv_at hl 0 rfl) ?_
    refine va_get (D := D) (ci := 1) (v := .int (nI fn)) (C := RX1) (T := TX1) (N := 7) hx hb hts hin hown hK hP 0 rfl rfl 2 (by decide) (hts (.fieldLink RX1 28 "OddsSamplingModel" "facts" "I") (by decide +kernel)) (fun _ h9 => h9) rfl dX1_holds_22 ?_
    refine lv_ishl hx hb dX1_holds_25 ?_
    refine oo_topI (y := nI (2 ^ fn)) (oo_shl1 fn (by omega)) ?_
    refine lv_iconst (v := (1 : Int32)) hx hb dX1_holds_26 (by decide) ?_
    refine lv_isub hx hb dX1_holds_27 ?_
    refine lv_iand hx hb dX1_holds_28 ?_
    refine oo_topI (y := nI ((w &&& (nI (2 ^ fn) - 1)).toNatClampNeg)) (oo_mask hfn w).1 ?_
    refine ro_calli (va_runV (As := [.int (nI q.toNatClampNeg), .int (nI ((w &&& (nI (2 ^ fn) - 1)).toNatClampNeg))]) (rest := []) ⟨hx, hb, hml, hown, hts⟩ (kX1_isTrue l D cI cZ h b1 b2 b3 u d tr fn qn sd (0 : Int32) q.toNatClampNeg ((w &&& (nI (2 ^ fn) - 1)).toNatClampNeg) (by omega) (by have := (oo_mask hfn w).2; omega) h01) (cwV 2 hts gX1_holds_X1_isTrue rfl rfl rfl ok_X1_isTrue ⟨Nat.le_of_ble_eq_true rfl, Nat.le_of_ble_eq_true rfl⟩) ⟨oo_blind, va_recv hK hP (ci := 1) (q0 := 0) rfl rfl, oo_ps hP hK [0, 1, 2, 3] rfl [0, 1] rfl⟩ rfl rfl hl.1 rfl (lv_room (Nat.le_of_ble_eq_true rfl)) dX1_holds_29 ⟨Nat.le_of_ble_eq_true rfl, Nat.le_of_ble_eq_true rfl⟩) hP hS (fun H locs hP hS => ?_)
    refine lv_if_eq (tgt := 39) hx hb dX1_holds_32 (by decide) (fun c_32 => ?_) (fun c_32 => ?_)
    · refine lv_iconst (v := (0 : Int32)) hx hb dX1_holds_39 (by decide) ?_
      exact mu_reti hx hb hr hlocks hP hD hS (by unfold kvX1_holds; rw [if_neg c_10, if_pos c_32]) dX1_holds_40
    · refine lv_iconst (v := (1 : Int32)) hx hb dX1_holds_35 (by decide) ?_
      refine lv_goto (tgt := 40) hx hb dX1_holds_36 (by decide) ?_
      exact mu_reti hx hb hr hlocks hP hD hS (by unfold kvX1_holds; rw [if_neg c_10, if_neg c_32]) dX1_holds_40
  · refine lv_iconst (v := (-1 : Int32)) hx hb dX1_holds_13 (by decide) ?_
    refine lv_goto (tgt := 40) hx hb dX1_holds_14 (by decide) ?_
    exact mu_reti hx hb hr hlocks hP hD hS (by unfold kvX1_holds; rw [if_pos c_10]) dX1_holds_40
def kl_weigh (u d : Nat → Int32) (w : Int32) : Nat → Int64
  | 0 => 1
  | n + 1 => if ((w >>> (nI n &&& 31)) &&& 1) = 1 then kl_weigh u d w n * (u n).toInt64 else kl_weigh u d w n * (d n - u n).toInt64
def kl_all (d : Nat → Int32) : Nat → Int64
  | 0 => 1
  | n + 1 => kl_all d n * (d n).toInt64
theorem ok_X1_weigh : yX1_weigh.cls = RX1 ∧ yX1_weigh.cls ≠ "java/lang/invoke/MethodHandle" ∧ yX1_weigh.cls ≠ "java/lang/invoke/VarHandle" ∧ (parseMethodDescriptor yX1_weigh.desc).map (fun d => d.parameters.length) = some 1 := by decide +kernel
def kvX1_weigh (u : Nat → Int32) (d : Nat → Int32) (fn : Nat) (w : Int32) : Int64 := kl_weigh u d w fn
set_option maxHeartbeats 4000000 in
set_option maxRecDepth 100000 in
theorem kX1_weigh (l : Launch) (D : va_G) (cI : ClassId) (cZ : ClassId) (h b1 b2 b3 : Nat) (u d tr : Nat → Int32) (fn qn : Nat) (sd : Int64) (th : Int32) (w : Int32) (hfn : fn ≤ 12) : RoL l yX1_weigh wsX1_weigh ({ frames := 0, cells := 0, slots := 0, locals := 0 } : Room) [.ref h, .int w] D (mW cI cZ h b1 b2 b3 u d tr (nI fn) (nI qn) sd th) [(cI, .int), (cZ, .boolean)] (kvX1_weigh u d fn w) := by
  refine oo_head (C := RX1) (cc := cX1_weigh) (maxL := 5) (ret := (some .long)) (by decide) rfl rfl (Nat.le_of_ble_eq_true rfl) ?_
  intro p e s m below meth c hx hb hr hlocks hml hown hnm hts hpre ls hl
  have hl : lv_has ls 5 [(0, .ref h), (1, .int w)] := hl
  obtain ⟨hP, hK⟩ := hpre
  have hS : va_S oo_N s.heap s.heap [] := va_S.rf
  have hin : ∀ w ∈ wsX10, w ∈ wsX1_weigh := fun w h => List.mem_cons_of_mem _ (List.mem_append_right _ h)
  refine lv_lconst (v := (1 : Int64)) hx hb dX1_weigh_0 (by decide) ?_
  refine lv_lstore_n (lv' := [(2, .long (1 : Int64)), (0, .ref h), (1, .int w)]) hx hb dX1_weigh_1 rfl hl (by decide) rfl (fun ls hl => ?_)
  refine lv_iconst (v := nI 0) hx hb dX1_weigh_2 (by decide) ?_
  refine lv_istore (lv' := [(4, .int (nI 0)), (2, .long (1 : Int64)), (0, .ref h), (1, .int w)]) hx hb dX1_weigh_3 hl (by decide) rfl (fun ls hl => ?_)
  have hl : lv_has ls 5 [(0, .ref h), (1, .int w), (2, .long (1 : Int64)), (4, .int (nI 0))] := lv_sub hl [2, 3, 1, 0] rfl
  have hl := Eq.mp (congrArg (fun z9 => lv_has ls 5 [(0, .ref h), (1, .int w), (2, .long z9), (4, .int (nI 0))]) (show (1 : Int64) = kl_weigh u d w 0 from (by simp only [kl_weigh]))) hl
  refine oo_loop (N := fn) (fun n H locs ls => va_P D vwCl (mW cI cZ h b1 b2 b3 u d tr (nI fn) (nI qn) sd th) H ∧ va_S (oo_N) s.heap H locs ∧ lv_has ls 5 [(0, .ref h), (1, .int w), (2, .long (kl_weigh u d w n)), (4, .int (nI n))]) ?_ ?_ 0 (Nat.zero_le _) ⟨hP, hS, hl⟩
  · intro H locs ls hI
    obtain ⟨hP, hS, hl⟩ := hI
    refine lv_iload hx hb dX1_weigh_5 (lv_at hl 3 rfl) ?_
    refine lv_aload_n hx hb dX1_weigh_7 rfl (lv_at hl 0 rfl) ?_
    refine va_get (D := D) (ci := 1) (v := .int (nI fn)) (C := RX1) (T := TX1) (N := 7) hx hb hts hin hown hK hP 0 rfl rfl 2 (by decide) (hts (.fieldLink RX1 28 "OddsSamplingModel" "facts" "I") (by decide +kernel)) (fun _ h9 => h9) rfl dX1_weigh_8 ?_
    refine lv_icmp_ge (tgt := 59) hx hb dX1_weigh_11 (by decide) (fun c_11 => ?_) (fun c_11 => ?_)
    · refine lv_lload_n hx hb dX1_weigh_59 rfl (lv_at hl 2 rfl) ?_
      exact ro_retl hx hb hr hlocks hS (by unfold kvX1_weigh; rfl) dX1_weigh_60
    · exact absurd (nI_le (Nat.le_refl _) (by omega)) c_11
  · intro n hltn ihn H locs ls hI
    obtain ⟨hP, hS, hl⟩ := hI
    refine lv_iload hx hb dX1_weigh_5 (lv_at hl 3 rfl) ?_
    refine lv_aload_n hx hb dX1_weigh_7 rfl (lv_at hl 0 rfl) ?_
    refine va_get (D := D) (ci := 1) (v := .int (nI fn)) (C := RX1) (T := TX1) (N := 7) hx hb hts hin hown hK hP 0 rfl rfl 2 (by decide) (hts (.fieldLink RX1 28 "OddsSamplingModel" "facts" "I") (by decide +kernel)) (fun _ h9 => h9) rfl dX1_weigh_8 ?_
    refine lv_icmp_ge (tgt := 59) hx hb dX1_weigh_11 (by decide) (fun c_11 => ?_) (fun c_11 => ?_)
    · exact absurd c_11 (nI_ge hltn (by omega))
    · refine lv_lload_n hx hb dX1_weigh_14 rfl (lv_at hl 2 rfl) ?_
      refine lv_iload_n hx hb dX1_weigh_15 rfl (lv_at hl 1 rfl) ?_
      refine lv_iload hx hb dX1_weigh_16 (lv_at hl 3 rfl) ?_
      refine lv_ishr hx hb dX1_weigh_18 ?_
      refine lv_iconst (v := (1 : Int32)) hx hb dX1_weigh_19 (by decide) ?_
      refine lv_iand hx hb dX1_weigh_20 ?_
      refine lv_iconst (v := (1 : Int32)) hx hb dX1_weigh_21 (by decide) ?_
      refine lv_icmp_ne (tgt := 35) hx hb dX1_weigh_22 (by decide) (fun c_22 => ?_) (fun c_22 => ?_)
      · refine lv_aload_n hx hb dX1_weigh_35 rfl (lv_at hl 0 rfl) ?_
        refine va_get (D := D) (ci := 1) (v := .ref b2) (C := RX1) (T := TX1) (N := 7) hx hb hts hin hown hK hP 0 rfl rfl 1 (by decide) (hts (.fieldLink RX1 13 "OddsSamplingModel" "downs" "[I") (by decide +kernel)) (fun _ h9 => h9) rfl dX1_weigh_36 ?_
        refine lv_iload hx hb dX1_weigh_39 (lv_at hl 3 rfl) ?_
        refine va_iald hx hb hK hP 2 0 rfl rfl (vp_in_nI (by omega) (by omega)) dX1_weigh_41 ?_
        refine oo_topI (y := d n) (congrArg d (nI_clamp (by omega))) ?_
        refine lv_aload_n hx hb dX1_weigh_42 rfl (lv_at hl 0 rfl) ?_
        refine va_get (D := D) (ci := 1) (v := .ref b1) (C := RX1) (T := TX1) (N := 7) hx hb hts hin hown hK hP 0 rfl rfl 0 (by decide) (hts (.fieldLink RX1 7 "OddsSamplingModel" "ups" "[I") (by decide +kernel)) (fun _ h9 => h9) rfl dX1_weigh_43 ?_
        refine lv_iload hx hb dX1_weigh_46 (lv_at hl 3 rfl) ?_
        refine va_iald hx hb hK hP 1 0 rfl rfl (vp_in_nI (by omega) (by omega)) dX1_weigh_48 ?_
        refine oo_topI (y := u n) (congrArg u (nI_clamp (by omega))) ?_
        refine lv_isub hx hb dX1_weigh_49 ?_
        refine lv_i2l hx hb dX1_weigh_50 rfl ?_
        refine lv_lmul hx hb dX1_weigh_51 ?_
        refine lv_lstore_n (lv' := [(2, .long ((kl_weigh u d w n) * (((d n) - (u n)).toInt64))), (0, .ref h), (1, .int w), (4, .int (nI n))]) hx hb dX1_weigh_52 rfl hl (by decide) rfl (fun ls hl => ?_)
        refine lv_iinc (v := nI (n + 1)) (lv' := [(4, .int (nI (n + 1))), (2, .long ((kl_weigh u d w n) * (((d n) - (u n)).toInt64))), (0, .ref h), (1, .int w)]) hx hb dX1_weigh_53 hl (k := 3) rfl (oo_inc n 1) (by decide) rfl (fun ls hl => ?_)
        refine lv_goto (tgt := 5) hx hb dX1_weigh_56 (by decide) ?_
        have hl : lv_has ls 5 [(0, .ref h), (1, .int w), (2, .long ((kl_weigh u d w n) * (((d n) - (u n)).toInt64))), (4, .int (nI (n + 1)))] := lv_sub hl [2, 3, 1, 0] rfl
        have hl := Eq.mp (congrArg (fun z9 => lv_has ls 5 [(0, .ref h), (1, .int w), (2, .long z9), (4, .int (nI (n + 1)))]) (show (kl_weigh u d w n) * (((d n) - (u n)).toInt64) = kl_weigh u d w (n + 1) from (by first | (simp only [kl_weigh]; done) | (simp only [kl_weigh]; rw [if_neg c_22])))) hl
        exact ihn _ _ _ ⟨hP, hS, hl⟩
      · refine lv_aload_n hx hb dX1_weigh_25 rfl (lv_at hl 0 rfl) ?_
        refine va_get (D := D) (ci := 1) (v := .ref b1) (C := RX1) (T := TX1) (N := 7) hx hb hts hin hown hK hP 0 rfl rfl 0 (by decide) (hts (.fieldLink RX1 7 "OddsSamplingModel" "ups" "[I") (by decide +kernel)) (fun _ h9 => h9) rfl dX1_weigh_26 ?_
        refine lv_iload hx hb dX1_weigh_29 (lv_at hl 3 rfl) ?_
        refine va_iald hx hb hK hP 1 0 rfl rfl (vp_in_nI (by omega) (by omega)) dX1_weigh_31 ?_
        refine oo_topI (y := u n) (congrArg u (nI_clamp (by omega))) ?_
        refine lv_goto (tgt := 50) hx hb dX1_weigh_32 (by decide) ?_
        refine lv_i2l hx hb dX1_weigh_50 rfl ?_
        refine lv_lmul hx hb dX1_weigh_51 ?_
        refine lv_lstore_n (lv' := [(2, .long ((kl_weigh u d w n) * ((u n).toInt64))), (0, .ref h), (1, .int w), (4, .int (nI n))]) hx hb dX1_weigh_52 rfl hl (by decide) rfl (fun ls hl => ?_)
        refine lv_iinc (v := nI (n + 1)) (lv' := [(4, .int (nI (n + 1))), (2, .long ((kl_weigh u d w n) * ((u n).toInt64))), (0, .ref h), (1, .int w)]) hx hb dX1_weigh_53 hl (k := 3) rfl (oo_inc n 1) (by decide) rfl (fun ls hl => ?_)
        refine lv_goto (tgt := 5) hx hb dX1_weigh_56 (by decide) ?_
        have hl : lv_has ls 5 [(0, .ref h), (1, .int w), (2, .long ((kl_weigh u d w n) * ((u n).toInt64))), (4, .int (nI (n + 1)))] := lv_sub hl [2, 3, 1, 0] rfl
        have hl := Eq.mp (congrArg (fun z9 => lv_has ls 5 [(0, .ref h), (1, .int w), (2, .long z9), (4, .int (nI (n + 1)))]) (show (kl_weigh u d w n) * ((u n).toInt64) = kl_weigh u d w (n + 1) from (by first | (simp only [kl_weigh]; done) | (simp only [kl_weigh]; rw [if_pos c_22])))) hl
        exact ihn _ _ _ ⟨hP, hS, hl⟩
theorem ok_X1_all : yX1_all.cls = RX1 ∧ yX1_all.cls ≠ "java/lang/invoke/MethodHandle" ∧ yX1_all.cls ≠ "java/lang/invoke/VarHandle" ∧ (parseMethodDescriptor yX1_all.desc).map (fun d => d.parameters.length) = some 0 := by decide +kernel
def kvX1_all (d : Nat → Int32) (fn : Nat) : Int64 := kl_all d fn
set_option maxHeartbeats 4000000 in
set_option maxRecDepth 100000 in
theorem kX1_all (l : Launch) (D : va_G) (cI : ClassId) (cZ : ClassId) (h b1 b2 b3 : Nat) (u d tr : Nat → Int32) (fn qn : Nat) (sd : Int64) (th : Int32)  (hfn : fn ≤ 12) : RoL l yX1_all wsX1_all ({ frames := 0, cells := 0, slots := 0, locals := 0 } : Room) [.ref h] D (mW cI cZ h b1 b2 b3 u d tr (nI fn) (nI qn) sd th) [(cI, .int), (cZ, .boolean)] (kvX1_all d fn) := by
  refine oo_head (C := RX1) (cc := cX1_all) (maxL := 4) (ret := (some .long)) (by decide) rfl rfl (Nat.le_of_ble_eq_true rfl) ?_
  intro p e s m below meth c hx hb hr hlocks hml hown hnm hts hpre ls hl
  have hl : lv_has ls 4 [(0, .ref h)] := hl
  obtain ⟨hP, hK⟩ := hpre
  have hS : va_S oo_N s.heap s.heap [] := va_S.rf
  have hin : ∀ w ∈ wsX10, w ∈ wsX1_all := fun w h => List.mem_cons_of_mem _ (List.mem_append_right _ h)
  refine lv_lconst (v := (1 : Int64)) hx hb dX1_all_0 (by decide) ?_
  refine lv_lstore_n (lv' := [(1, .long (1 : Int64)), (0, .ref h)]) hx hb dX1_all_1 rfl hl (by decide) rfl (fun ls hl => ?_)
  refine lv_iconst (v := nI 0) hx hb dX1_all_2 (by decide) ?_
  refine lv_istore_n (lv' := [(3, .int (nI 0)), (1, .long (1 : Int64)), (0, .ref h)]) hx hb dX1_all_3 rfl hl (by decide) rfl (fun ls hl => ?_)
  have hl : lv_has ls 4 [(0, .ref h), (1, .long (1 : Int64)), (3, .int (nI 0))] := lv_sub hl [2, 1, 0] rfl
  have hl := Eq.mp (congrArg (fun z9 => lv_has ls 4 [(0, .ref h), (1, .long z9), (3, .int (nI 0))]) (show (1 : Int64) = kl_all d 0 from (by simp only [kl_all]))) hl
  refine oo_loop (N := fn) (fun n H locs ls => va_P D vwCl (mW cI cZ h b1 b2 b3 u d tr (nI fn) (nI qn) sd th) H ∧ va_S (oo_N) s.heap H locs ∧ lv_has ls 4 [(0, .ref h), (1, .long (kl_all d n)), (3, .int (nI n))]) ?_ ?_ 0 (Nat.zero_le _) ⟨hP, hS, hl⟩
  · intro H locs ls hI
    obtain ⟨hP, hS, hl⟩ := hI
    refine lv_iload_n hx hb dX1_all_4 rfl (lv_at hl 2 rfl) ?_
    refine lv_aload_n hx hb dX1_all_5 rfl (lv_at hl 0 rfl) ?_
    refine va_get (D := D) (ci := 1) (v := .int (nI fn)) (C := RX1) (T := TX1) (N := 7) hx hb hts hin hown hK hP 0 rfl rfl 2 (by decide) (hts (.fieldLink RX1 28 "OddsSamplingModel" "facts" "I") (by decide +kernel)) (fun _ h9 => h9) rfl dX1_all_6 ?_
    refine lv_icmp_ge (tgt := 28) hx hb dX1_all_9 (by decide) (fun c_9 => ?_) (fun c_9 => ?_)
    · refine lv_lload_n hx hb dX1_all_28 rfl (lv_at hl 1 rfl) ?_
      exact ro_retl hx hb hr hlocks hS (by unfold kvX1_all; rfl) dX1_all_29
    · exact absurd (nI_le (Nat.le_refl _) (by omega)) c_9
  · intro n hltn ihn H locs ls hI
    obtain ⟨hP, hS, hl⟩ := hI
    refine lv_iload_n hx hb dX1_all_4 rfl (lv_at hl 2 rfl) ?_
    refine lv_aload_n hx hb dX1_all_5 rfl (lv_at hl 0 rfl) ?_
    refine va_get (D := D) (ci := 1) (v := .int (nI fn)) (C := RX1) (T := TX1) (N := 7) hx hb hts hin hown hK hP 0 rfl rfl 2 (by decide) (hts (.fieldLink RX1 28 "OddsSamplingModel" "facts" "I") (by decide +kernel)) (fun _ h9 => h9) rfl dX1_all_6 ?_
    refine lv_icmp_ge (tgt := 28) hx hb dX1_all_9 (by decide) (fun c_9 => ?_) (fun c_9 => ?_)
    · exact absurd c_9 (nI_ge hltn (by omega))
    · refine lv_lload_n hx hb dX1_all_12 rfl (lv_at hl 1 rfl) ?_
      refine lv_aload_n hx hb dX1_all_13 rfl (lv_at hl 0 rfl) ?_
      refine va_get (D := D) (ci := 1) (v := .ref b2) (C := RX1) (T := TX1) (N := 7) hx hb hts hin hown hK hP 0 rfl rfl 1 (by decide) (hts (.fieldLink RX1 13 "OddsSamplingModel" "downs" "[I") (by decide +kernel)) (fun _ h9 => h9) rfl dX1_all_14 ?_
      refine lv_iload_n hx hb dX1_all_17 rfl (lv_at hl 2 rfl) ?_
      refine va_iald hx hb hK hP 2 0 rfl rfl (vp_in_nI (by omega) (by omega)) dX1_all_18 ?_
      refine oo_topI (y := d n) (congrArg d (nI_clamp (by omega))) ?_
      refine lv_i2l hx hb dX1_all_19 rfl ?_
      refine lv_lmul hx hb dX1_all_20 ?_
      refine lv_lstore_n (lv' := [(1, .long ((kl_all d n) * ((d n).toInt64))), (0, .ref h), (3, .int (nI n))]) hx hb dX1_all_21 rfl hl (by decide) rfl (fun ls hl => ?_)
      refine lv_iinc (v := nI (n + 1)) (lv' := [(3, .int (nI (n + 1))), (1, .long ((kl_all d n) * ((d n).toInt64))), (0, .ref h)]) hx hb dX1_all_22 hl (k := 2) rfl (oo_inc n 1) (by decide) rfl (fun ls hl => ?_)
      refine lv_goto (tgt := 4) hx hb dX1_all_25 (by decide) ?_
      have hl : lv_has ls 4 [(0, .ref h), (1, .long ((kl_all d n) * ((d n).toInt64))), (3, .int (nI (n + 1)))] := lv_sub hl [2, 1, 0] rfl
      have hl := Eq.mp (congrArg (fun z9 => lv_has ls 4 [(0, .ref h), (1, .long z9), (3, .int (nI (n + 1)))]) (show (kl_all d n) * ((d n).toInt64) = kl_all d (n + 1) from (by simp only [kl_all]))) hl
      exact ihn _ _ _ ⟨hP, hS, hl⟩
def kl_msum (u d tr : Nat → Int32) (fn q : Nat) : Nat → Int64
  | 0 => 0
  | n + 1 => if tr (4096 * q + n) = 0 then kl_msum u d tr fn q n + 0 else kl_msum u d tr fn q n + kvX1_weigh u d fn (nI n)
theorem ok_X1_sum : yX1_sum.cls = RX1 ∧ yX1_sum.cls ≠ "java/lang/invoke/MethodHandle" ∧ yX1_sum.cls ≠ "java/lang/invoke/VarHandle" ∧ (parseMethodDescriptor yX1_sum.desc).map (fun d => d.parameters.length) = some 1 := by decide +kernel
def kvX1_sum (u : Nat → Int32) (d : Nat → Int32) (tr : Nat → Int32) (fn : Nat) (q : Nat) : Int64 := kl_msum u d tr fn q (2 ^ fn)
set_option maxHeartbeats 4000000 in
set_option maxRecDepth 100000 in
theorem kX1_sum (l : Launch) (D : va_G) (cI : ClassId) (cZ : ClassId) (h b1 b2 b3 : Nat) (u d tr : Nat → Int32) (fn qn : Nat) (sd : Int64) (th : Int32) (q : Nat)  (hfn : fn ≤ 12) (hq : q < 40) (h01 : oo_01 tr) : RoL l yX1_sum wsX1_sum ({ frames := 1, cells := 0, slots := 0, locals := 24 } : Room) [.ref h, .int (nI q)] D (mW cI cZ h b1 b2 b3 u d tr (nI fn) (nI qn) sd th) [(cI, .int), (cZ, .boolean)] (kvX1_sum u d tr fn q) := by
  refine oo_head (C := RX1) (cc := cX1_sum) (maxL := 5) (ret := (some .long)) (by decide) rfl rfl (Nat.le_of_ble_eq_true rfl) ?_
  intro p e s m below meth c hx hb hr hlocks hml hown hnm hts hpre ls hl
  have hl : lv_has ls 5 [(0, .ref h), (1, .int (nI q))] := hl
  obtain ⟨hP, hK⟩ := hpre
  have hS : va_S oo_N s.heap s.heap [] := va_S.rf
  have hin : ∀ w ∈ wsX10, w ∈ wsX1_sum := fun w h => List.mem_cons_of_mem _ (List.mem_append_right _ h)
  have h2n : 2 ^ fn ≤ 2 ^ 12 := Nat.pow_le_pow_right (by omega) hfn
  refine lv_lconst (v := (0 : Int64)) hx hb dX1_sum_0 (by decide) ?_
  refine lv_lstore_n (lv' := [(2, .long (0 : Int64)), (0, .ref h), (1, .int (nI q))]) hx hb dX1_sum_1 rfl hl (by decide) rfl (fun ls hl => ?_)
  refine lv_iconst (v := nI 0) hx hb dX1_sum_2 (by decide) ?_
  refine lv_istore (lv' := [(4, .int (nI 0)), (2, .long (0 : Int64)), (0, .ref h), (1, .int (nI q))]) hx hb dX1_sum_3 hl (by decide) rfl (fun ls hl => ?_)
  have hl : lv_has ls 5 [(0, .ref h), (1, .int (nI q)), (2, .long (0 : Int64)), (4, .int (nI 0))] := lv_sub hl [2, 3, 1, 0] rfl
  have hl := Eq.mp (congrArg (fun z9 => lv_has ls 5 [(0, .ref h), (1, .int (nI q)), (2, .long z9), (4, .int (nI 0))]) (show (0 : Int64) = kl_msum u d tr fn q 0 from (by simp only [kl_msum]))) hl
  refine oo_loop (N := (2 ^ fn)) (fun n H locs ls => va_P D vwCl (mW cI cZ h b1 b2 b3 u d tr (nI fn) (nI qn) sd th) H ∧ va_S (oo_N) s.heap H locs ∧ lv_has ls 5 [(0, .ref h), (1, .int (nI q)), (2, .long (kl_msum u d tr fn q n)), (4, .int (nI n))]) ?_ ?_ 0 (Nat.zero_le _) ⟨hP, hS, hl⟩
  · intro H locs ls hI
    obtain ⟨hP, hS, hl⟩ := hI
    refine lv_iload hx hb dX1_sum_5 (lv_at hl 3 rfl) ?_
    refine lv_iconst (v := (1 : Int32)) hx hb dX1_sum_7 (by decide) ?_
    refine lv_aload_n hx hb dX1_sum_8 rfl (lv_at hl 0 rfl) ?_
    refine va_get (D := D) (ci := 1) (v := .int (nI fn)) (C := RX1) (T := TX1) (N := 7) hx hb hts hin hown hK hP 0 rfl rfl 2 (by decide) (hts (.fieldLink RX1 28 "OddsSamplingModel" "facts" "I") (by decide +kernel)) (fun _ h9 => h9) rfl dX1_sum_9 ?_
    refine lv_ishl hx hb dX1_sum_12 ?_
    refine oo_topI (y := nI (2 ^ fn)) (oo_shl1 fn (by omega)) ?_
    refine lv_icmp_ge (tgt := 45) hx hb dX1_sum_13 (by decide) (fun c_13 => ?_) (fun c_13 => ?_)
    · refine lv_lload_n hx hb dX1_sum_45 rfl (lv_at hl 2 rfl) ?_
      exact ro_retl hx hb hr hlocks hS (by unfold kvX1_sum; rfl) dX1_sum_46
    · exact absurd (nI_le (Nat.le_refl _) (by omega)) c_13
  · intro n hltn ihn H locs ls hI
    obtain ⟨hP, hS, hl⟩ := hI
    refine lv_iload hx hb dX1_sum_5 (lv_at hl 3 rfl) ?_
    refine lv_iconst (v := (1 : Int32)) hx hb dX1_sum_7 (by decide) ?_
    refine lv_aload_n hx hb dX1_sum_8 rfl (lv_at hl 0 rfl) ?_
    refine va_get (D := D) (ci := 1) (v := .int (nI fn)) (C := RX1) (T := TX1) (N := 7) hx hb hts hin hown hK hP 0 rfl rfl 2 (by decide) (hts (.fieldLink RX1 28 "OddsSamplingModel" "facts" "I") (by decide +kernel)) (fun _ h9 => h9) rfl dX1_sum_9 ?_
    refine lv_ishl hx hb dX1_sum_12 ?_
    refine oo_topI (y := nI (2 ^ fn)) (oo_shl1 fn (by omega)) ?_
    refine lv_icmp_ge (tgt := 45) hx hb dX1_sum_13 (by decide) (fun c_13 => ?_) (fun c_13 => ?_)
    · exact absurd c_13 (nI_ge hltn (by omega))
    · refine lv_lload_n hx hb dX1_sum_16 rfl (lv_at hl 2 rfl) ?_
      refine lv_aload_n hx hb dX1_sum_17 rfl (lv_at hl 0 rfl) ?_
      refine lv_iload_n hx hb dX1_sum_18 rfl (lv_at hl 1 rfl) ?_
      refine lv_iload hx hb dX1_sum_19 (lv_at hl 3 rfl) ?_
      refine ro_calli (va_runV (As := [.int (nI q), .int (nI n)]) (rest := [.long (kl_msum u d tr fn q n)]) ⟨hx, hb, hml, hown, hts⟩ (kX1_isTrue l D cI cZ h b1 b2 b3 u d tr fn qn sd th q n hq (by omega) h01) (cwV 2 hts gX1_sum_X1_isTrue rfl rfl rfl ok_X1_isTrue ⟨Nat.le_of_ble_eq_true rfl, Nat.le_of_ble_eq_true rfl⟩) ⟨oo_blind, va_recv hK hP (ci := 1) (q0 := 0) rfl rfl, oo_ps hP hK [0, 1, 2, 3] rfl [0, 1] rfl⟩ rfl rfl hl.1 rfl (lv_room (Nat.le_of_ble_eq_true rfl)) dX1_sum_21 ⟨Nat.le_of_ble_eq_true rfl, Nat.le_of_ble_eq_true rfl⟩) hP hS (fun H locs hP hS => ?_)
      refine lv_if_eq (tgt := 36) hx hb dX1_sum_24 (by decide) (fun c_24 => ?_) (fun c_24 => ?_)
      · refine lv_lconst (v := (0 : Int64)) hx hb dX1_sum_36 (by decide) ?_
        refine lv_ladd hx hb dX1_sum_37 ?_
        refine lv_lstore_n (lv' := [(2, .long ((kl_msum u d tr fn q n) + (0 : Int64))), (0, .ref h), (1, .int (nI q)), (4, .int (nI n))]) hx hb dX1_sum_38 rfl hl (by decide) rfl (fun ls hl => ?_)
        refine lv_iinc (v := nI (n + 1)) (lv' := [(4, .int (nI (n + 1))), (2, .long ((kl_msum u d tr fn q n) + (0 : Int64))), (0, .ref h), (1, .int (nI q))]) hx hb dX1_sum_39 hl (k := 3) rfl (oo_inc n 1) (by decide) rfl (fun ls hl => ?_)
        refine lv_goto (tgt := 5) hx hb dX1_sum_42 (by decide) ?_
        have hl : lv_has ls 5 [(0, .ref h), (1, .int (nI q)), (2, .long ((kl_msum u d tr fn q n) + (0 : Int64))), (4, .int (nI (n + 1)))] := lv_sub hl [2, 3, 1, 0] rfl
        have hl := Eq.mp (congrArg (fun z9 => lv_has ls 5 [(0, .ref h), (1, .int (nI q)), (2, .long z9), (4, .int (nI (n + 1)))]) (show (kl_msum u d tr fn q n) + (0 : Int64) = kl_msum u d tr fn q (n + 1) from (by first | (simp only [kl_msum]; done) | (simp only [kl_msum]; rw [if_pos c_24])))) hl
        exact ihn _ _ _ ⟨hP, hS, hl⟩
      · refine lv_aload_n hx hb dX1_sum_27 rfl (lv_at hl 0 rfl) ?_
        refine lv_iload hx hb dX1_sum_28 (lv_at hl 3 rfl) ?_
        refine ro_calll (va_runV (As := [.int (nI n)]) (rest := [.long (kl_msum u d tr fn q n)]) ⟨hx, hb, hml, hown, hts⟩ (kX1_weigh l D cI cZ h b1 b2 b3 u d tr fn qn sd th (nI n) hfn) (cwV 1 hts gX1_sum_X1_weigh rfl rfl rfl ok_X1_weigh ⟨Nat.le_of_ble_eq_true rfl, Nat.le_of_ble_eq_true rfl⟩) ⟨oo_blind, va_recv hK hP (ci := 1) (q0 := 0) rfl rfl, oo_ps hP hK [0, 1, 2, 3] rfl [0, 1] rfl⟩ rfl rfl hl.1 rfl (lv_room (Nat.le_of_ble_eq_true rfl)) dX1_sum_30 ⟨Nat.le_of_ble_eq_true rfl, Nat.le_of_ble_eq_true rfl⟩) hP hS (fun H locs hP hS => ?_)
        refine lv_goto (tgt := 37) hx hb dX1_sum_33 (by decide) ?_
        refine lv_ladd hx hb dX1_sum_37 ?_
        refine lv_lstore_n (lv' := [(2, .long ((kl_msum u d tr fn q n) + (kvX1_weigh u d fn (nI n)))), (0, .ref h), (1, .int (nI q)), (4, .int (nI n))]) hx hb dX1_sum_38 rfl hl (by decide) rfl (fun ls hl => ?_)
        refine lv_iinc (v := nI (n + 1)) (lv' := [(4, .int (nI (n + 1))), (2, .long ((kl_msum u d tr fn q n) + (kvX1_weigh u d fn (nI n)))), (0, .ref h), (1, .int (nI q))]) hx hb dX1_sum_39 hl (k := 3) rfl (oo_inc n 1) (by decide) rfl (fun ls hl => ?_)
        refine lv_goto (tgt := 5) hx hb dX1_sum_42 (by decide) ?_
        have hl : lv_has ls 5 [(0, .ref h), (1, .int (nI q)), (2, .long ((kl_msum u d tr fn q n) + (kvX1_weigh u d fn (nI n)))), (4, .int (nI (n + 1)))] := lv_sub hl [2, 3, 1, 0] rfl
        have hl := Eq.mp (congrArg (fun z9 => lv_has ls 5 [(0, .ref h), (1, .int (nI q)), (2, .long z9), (4, .int (nI (n + 1)))]) (show (kl_msum u d tr fn q n) + (kvX1_weigh u d fn (nI n)) = kl_msum u d tr fn q (n + 1) from (by first | (simp only [kl_msum]; done) | (simp only [kl_msum]; rw [if_neg c_24])))) hl
        exact ihn _ _ _ ⟨hP, hS, hl⟩
theorem ok_X1_divisor : yX1_divisor.cls ≠ "java/lang/invoke/MethodHandle" ∧ yX1_divisor.cls ≠ "java/lang/invoke/VarHandle" ∧ (parseMethodDescriptor yX1_divisor.desc).map (fun d => d.parameters.length) = some 2 := by decide +kernel
set_option maxHeartbeats 4000000 in
set_option maxRecDepth 100000 in
theorem kX1_divisor (l : Launch) (D : va_G) (a : Int64) (b : Int64) (hN : (kl_gcd (kl_abs a) b 100).2 = 0) : RoL l yX1_divisor wsX1_divisor ({ frames := 0, cells := 0, slots := 0, locals := 0 } : Room) [.long a, .long b] D ([]) [] ((kl_gcd (kl_abs a) b 100).1) := by
  refine oo_head (C := RX1) (cc := cX1_divisor) (maxL := 10) (ret := (some .long)) (by decide) rfl rfl (Nat.le_of_ble_eq_true rfl) ?_
  intro p e s m below meth c hx hb hr hlocks hml hown hnm hts hpre ls hl
  have hl : lv_has ls 10 [(0, .long a), (2, .long b)] := hl
  obtain ⟨hP, hK⟩ := hpre
  have hS : va_S oo_N s.heap s.heap [] := va_S.rf
  refine lv_lload_n hx hb dX1_divisor_0 rfl (lv_at hl 0 rfl) ?_
  refine lv_lconst (v := (0 : Int64)) hx hb dX1_divisor_1 (by decide) ?_
  refine W.lcmp hx hb dX1_divisor_2 ?_
  refine lv_if_ge (tgt := 11) hx hb dX1_divisor_3 (by decide) (fun c_3 => ?_) (fun c_3 => ?_)
  · refine lv_lload_n hx hb dX1_divisor_11 rfl (lv_at hl 0 rfl) ?_
    refine oo_topL (y := kl_abs a) (if_pos c_3).symm ?_
    refine lv_lstore (lv' := [(4, .long (kl_abs a)), (0, .long a), (2, .long b)]) hx hb dX1_divisor_12 hl (by decide) rfl (fun ls hl => ?_)
    refine lv_lload_n hx hb dX1_divisor_14 rfl (lv_at hl 2 rfl) ?_
    refine lv_lstore (lv' := [(6, .long b), (4, .long (kl_abs a)), (0, .long a), (2, .long b)]) hx hb dX1_divisor_15 hl (by decide) rfl (fun ls hl => ?_)
    have hl : lv_has ls 10 [(0, .long a), (2, .long b), (4, .long (kl_abs a)), (6, .long b)] := lv_sub hl [2, 3, 1, 0] rfl
    have hl := Eq.mp (congrArg (fun z9 => lv_has ls 10 [(0, .long a), (2, .long b), (4, .long z9), (6, .long b)]) (show kl_abs a = (kl_gcd (kl_abs a) b 0).1 from (by first | (simp only [kl_gcd]; done) | (simp only [kl_gcd]; rw [if_pos c_3])))) hl
    have hl := Eq.mp (congrArg (fun z9 => lv_has ls 10 [(0, .long a), (2, .long b), (4, .long ((kl_gcd (kl_abs a) b 0).1)), (6, .long z9)]) (show b = (kl_gcd (kl_abs a) b 0).2 from (by first | (simp only [kl_gcd]; done) | (simp only [kl_gcd]; rw [if_pos c_3])))) hl
    refine oo_loop (N := 100) (fun n H locs ls => va_P D vwCl ([]) H ∧ va_S (oo_N) s.heap H locs ∧ lv_has ls 10 [(0, .long a), (2, .long b), (4, .long ((kl_gcd (kl_abs a) b n).1)), (6, .long ((kl_gcd (kl_abs a) b n).2))]) ?_ ?_ 0 (Nat.zero_le _) ⟨hP, hS, hl⟩
    · intro H locs ls hI
      obtain ⟨hP, hS, hl⟩ := hI
      refine lv_lload hx hb dX1_divisor_17 (lv_at hl 3 rfl) ?_
      refine lv_lconst (v := (0 : Int64)) hx hb dX1_divisor_19 (by decide) ?_
      refine W.lcmp hx hb dX1_divisor_20 ?_
      refine lv_if_eq (tgt := 42) hx hb dX1_divisor_21 (by decide) (fun c_21 => ?_) (fun c_21 => ?_)
      · refine lv_lload hx hb dX1_divisor_42 (lv_at hl 2 rfl) ?_
        exact ro_retl hx hb hr hlocks hS rfl dX1_divisor_44
      · exact absurd (by rw [hN]; decide) c_21
    · intro n hltn ihn H locs ls hI
      obtain ⟨hP, hS, hl⟩ := hI
      refine lv_lload hx hb dX1_divisor_17 (lv_at hl 3 rfl) ?_
      refine lv_lconst (v := (0 : Int64)) hx hb dX1_divisor_19 (by decide) ?_
      refine W.lcmp hx hb dX1_divisor_20 ?_
      refine lv_if_eq (tgt := 42) hx hb dX1_divisor_21 (by decide) (fun c_21 => ?_) (fun c_21 => ?_)
      · refine lv_lload hx hb dX1_divisor_42 (lv_at hl 2 rfl) ?_
        exact ro_retl hx hb hr hlocks hS (congrArg Prod.fst (kl_gcd_stop c_21 100 (by omega)).symm) dX1_divisor_44
      · refine lv_lload hx hb dX1_divisor_24 (lv_at hl 2 rfl) ?_
        refine lv_lload hx hb dX1_divisor_26 (lv_at hl 3 rfl) ?_
        refine lv_lrem hx hb dX1_divisor_28 (oo_nz2 c_21) ?_
        refine lv_lstore (lv' := [(8, .long (((kl_gcd (kl_abs a) b n).1) - ((kl_gcd (kl_abs a) b n).1) / ((kl_gcd (kl_abs a) b n).2) * ((kl_gcd (kl_abs a) b n).2))), (0, .long a), (2, .long b), (4, .long ((kl_gcd (kl_abs a) b n).1)), (6, .long ((kl_gcd (kl_abs a) b n).2))]) hx hb dX1_divisor_29 hl (by decide) rfl (fun ls hl => ?_)
        refine lv_lload hx hb dX1_divisor_31 (lv_at hl 4 rfl) ?_
        refine lv_lstore (lv' := [(4, .long ((kl_gcd (kl_abs a) b n).2)), (8, .long (((kl_gcd (kl_abs a) b n).1) - ((kl_gcd (kl_abs a) b n).1) / ((kl_gcd (kl_abs a) b n).2) * ((kl_gcd (kl_abs a) b n).2))), (0, .long a), (2, .long b), (6, .long ((kl_gcd (kl_abs a) b n).2))]) hx hb dX1_divisor_33 hl (by decide) rfl (fun ls hl => ?_)
        refine lv_lload hx hb dX1_divisor_35 (lv_at hl 1 rfl) ?_
        refine lv_lstore (lv' := [(6, .long (((kl_gcd (kl_abs a) b n).1) - ((kl_gcd (kl_abs a) b n).1) / ((kl_gcd (kl_abs a) b n).2) * ((kl_gcd (kl_abs a) b n).2))), (4, .long ((kl_gcd (kl_abs a) b n).2)), (8, .long (((kl_gcd (kl_abs a) b n).1) - ((kl_gcd (kl_abs a) b n).1) / ((kl_gcd (kl_abs a) b n).2) * ((kl_gcd (kl_abs a) b n).2))), (0, .long a), (2, .long b)]) hx hb dX1_divisor_37 hl (by decide) rfl (fun ls hl => ?_)
        refine lv_goto (tgt := 17) hx hb dX1_divisor_39 (by decide) ?_
        have hl : lv_has ls 10 [(0, .long a), (2, .long b), (4, .long ((kl_gcd (kl_abs a) b n).2)), (6, .long (((kl_gcd (kl_abs a) b n).1) - ((kl_gcd (kl_abs a) b n).1) / ((kl_gcd (kl_abs a) b n).2) * ((kl_gcd (kl_abs a) b n).2)))] := lv_sub hl [3, 4, 1, 0] rfl
        have hl := Eq.mp (congrArg (fun z9 => lv_has ls 10 [(0, .long a), (2, .long b), (4, .long z9), (6, .long (((kl_gcd (kl_abs a) b n).1) - ((kl_gcd (kl_abs a) b n).1) / ((kl_gcd (kl_abs a) b n).2) * ((kl_gcd (kl_abs a) b n).2)))]) (show (kl_gcd (kl_abs a) b n).2 = (kl_gcd (kl_abs a) b (n + 1)).1 from (by first | (simp only [kl_gcd]; done) | (simp only [kl_gcd]; rw [if_neg c_21])))) hl
        have hl := Eq.mp (congrArg (fun z9 => lv_has ls 10 [(0, .long a), (2, .long b), (4, .long ((kl_gcd (kl_abs a) b (n + 1)).1)), (6, .long z9)]) (show ((kl_gcd (kl_abs a) b n).1) - ((kl_gcd (kl_abs a) b n).1) / ((kl_gcd (kl_abs a) b n).2) * ((kl_gcd (kl_abs a) b n).2) = (kl_gcd (kl_abs a) b (n + 1)).2 from (by first | (simp only [kl_gcd]; done) | (simp only [kl_gcd]; rw [if_neg c_21])))) hl
        exact ihn _ _ _ ⟨hP, hS, hl⟩
  · refine lv_lload_n hx hb dX1_divisor_6 rfl (lv_at hl 0 rfl) ?_
    refine lv_lneg hx hb dX1_divisor_7 ?_
    refine oo_topL (y := kl_abs a) (if_neg c_3).symm ?_
    refine lv_goto (tgt := 12) hx hb dX1_divisor_8 (by decide) ?_
    refine lv_lstore (lv' := [(4, .long (kl_abs a)), (0, .long a), (2, .long b)]) hx hb dX1_divisor_12 hl (by decide) rfl (fun ls hl => ?_)
    refine lv_lload_n hx hb dX1_divisor_14 rfl (lv_at hl 2 rfl) ?_
    refine lv_lstore (lv' := [(6, .long b), (4, .long (kl_abs a)), (0, .long a), (2, .long b)]) hx hb dX1_divisor_15 hl (by decide) rfl (fun ls hl => ?_)
    have hl : lv_has ls 10 [(0, .long a), (2, .long b), (4, .long (kl_abs a)), (6, .long b)] := lv_sub hl [2, 3, 1, 0] rfl
    have hl := Eq.mp (congrArg (fun z9 => lv_has ls 10 [(0, .long a), (2, .long b), (4, .long z9), (6, .long b)]) (show kl_abs a = (kl_gcd (kl_abs a) b 0).1 from (by first | (simp only [kl_gcd]; done) | (simp only [kl_gcd]; rw [if_neg c_3])))) hl
    have hl := Eq.mp (congrArg (fun z9 => lv_has ls 10 [(0, .long a), (2, .long b), (4, .long ((kl_gcd (kl_abs a) b 0).1)), (6, .long z9)]) (show b = (kl_gcd (kl_abs a) b 0).2 from (by first | (simp only [kl_gcd]; done) | (simp only [kl_gcd]; rw [if_neg c_3])))) hl
    refine oo_loop (N := 100) (fun n H locs ls => va_P D vwCl ([]) H ∧ va_S (oo_N) s.heap H locs ∧ lv_has ls 10 [(0, .long a), (2, .long b), (4, .long ((kl_gcd (kl_abs a) b n).1)), (6, .long ((kl_gcd (kl_abs a) b n).2))]) ?_ ?_ 0 (Nat.zero_le _) ⟨hP, hS, hl⟩
    · intro H locs ls hI
      obtain ⟨hP, hS, hl⟩ := hI
      refine lv_lload hx hb dX1_divisor_17 (lv_at hl 3 rfl) ?_
      refine lv_lconst (v := (0 : Int64)) hx hb dX1_divisor_19 (by decide) ?_
      refine W.lcmp hx hb dX1_divisor_20 ?_
      refine lv_if_eq (tgt := 42) hx hb dX1_divisor_21 (by decide) (fun c_21 => ?_) (fun c_21 => ?_)
      · refine lv_lload hx hb dX1_divisor_42 (lv_at hl 2 rfl) ?_
        exact ro_retl hx hb hr hlocks hS rfl dX1_divisor_44
      · exact absurd (by rw [hN]; decide) c_21
    · intro n hltn ihn H locs ls hI
      obtain ⟨hP, hS, hl⟩ := hI
      refine lv_lload hx hb dX1_divisor_17 (lv_at hl 3 rfl) ?_
      refine lv_lconst (v := (0 : Int64)) hx hb dX1_divisor_19 (by decide) ?_
      refine W.lcmp hx hb dX1_divisor_20 ?_
      refine lv_if_eq (tgt := 42) hx hb dX1_divisor_21 (by decide) (fun c_21 => ?_) (fun c_21 => ?_)
      · refine lv_lload hx hb dX1_divisor_42 (lv_at hl 2 rfl) ?_
        exact ro_retl hx hb hr hlocks hS (congrArg Prod.fst (kl_gcd_stop c_21 100 (by omega)).symm) dX1_divisor_44
      · refine lv_lload hx hb dX1_divisor_24 (lv_at hl 2 rfl) ?_
        refine lv_lload hx hb dX1_divisor_26 (lv_at hl 3 rfl) ?_
        refine lv_lrem hx hb dX1_divisor_28 (oo_nz2 c_21) ?_
        refine lv_lstore (lv' := [(8, .long (((kl_gcd (kl_abs a) b n).1) - ((kl_gcd (kl_abs a) b n).1) / ((kl_gcd (kl_abs a) b n).2) * ((kl_gcd (kl_abs a) b n).2))), (0, .long a), (2, .long b), (4, .long ((kl_gcd (kl_abs a) b n).1)), (6, .long ((kl_gcd (kl_abs a) b n).2))]) hx hb dX1_divisor_29 hl (by decide) rfl (fun ls hl => ?_)
        refine lv_lload hx hb dX1_divisor_31 (lv_at hl 4 rfl) ?_
        refine lv_lstore (lv' := [(4, .long ((kl_gcd (kl_abs a) b n).2)), (8, .long (((kl_gcd (kl_abs a) b n).1) - ((kl_gcd (kl_abs a) b n).1) / ((kl_gcd (kl_abs a) b n).2) * ((kl_gcd (kl_abs a) b n).2))), (0, .long a), (2, .long b), (6, .long ((kl_gcd (kl_abs a) b n).2))]) hx hb dX1_divisor_33 hl (by decide) rfl (fun ls hl => ?_)
        refine lv_lload hx hb dX1_divisor_35 (lv_at hl 1 rfl) ?_
        refine lv_lstore (lv' := [(6, .long (((kl_gcd (kl_abs a) b n).1) - ((kl_gcd (kl_abs a) b n).1) / ((kl_gcd (kl_abs a) b n).2) * ((kl_gcd (kl_abs a) b n).2))), (4, .long ((kl_gcd (kl_abs a) b n).2)), (8, .long (((kl_gcd (kl_abs a) b n).1) - ((kl_gcd (kl_abs a) b n).1) / ((kl_gcd (kl_abs a) b n).2) * ((kl_gcd (kl_abs a) b n).2))), (0, .long a), (2, .long b)]) hx hb dX1_divisor_37 hl (by decide) rfl (fun ls hl => ?_)
        refine lv_goto (tgt := 17) hx hb dX1_divisor_39 (by decide) ?_
        have hl : lv_has ls 10 [(0, .long a), (2, .long b), (4, .long ((kl_gcd (kl_abs a) b n).2)), (6, .long (((kl_gcd (kl_abs a) b n).1) - ((kl_gcd (kl_abs a) b n).1) / ((kl_gcd (kl_abs a) b n).2) * ((kl_gcd (kl_abs a) b n).2)))] := lv_sub hl [3, 4, 1, 0] rfl
        have hl := Eq.mp (congrArg (fun z9 => lv_has ls 10 [(0, .long a), (2, .long b), (4, .long z9), (6, .long (((kl_gcd (kl_abs a) b n).1) - ((kl_gcd (kl_abs a) b n).1) / ((kl_gcd (kl_abs a) b n).2) * ((kl_gcd (kl_abs a) b n).2)))]) (show (kl_gcd (kl_abs a) b n).2 = (kl_gcd (kl_abs a) b (n + 1)).1 from (by first | (simp only [kl_gcd]; done) | (simp only [kl_gcd]; rw [if_neg c_21])))) hl
        have hl := Eq.mp (congrArg (fun z9 => lv_has ls 10 [(0, .long a), (2, .long b), (4, .long ((kl_gcd (kl_abs a) b (n + 1)).1)), (6, .long z9)]) (show ((kl_gcd (kl_abs a) b n).1) - ((kl_gcd (kl_abs a) b n).1) / ((kl_gcd (kl_abs a) b n).2) * ((kl_gcd (kl_abs a) b n).2) = (kl_gcd (kl_abs a) b (n + 1)).2 from (by first | (simp only [kl_gcd]; done) | (simp only [kl_gcd]; rw [if_neg c_21])))) hl
        exact ihn _ _ _ ⟨hP, hS, hl⟩
theorem ok_X1_part : yX1_part.cls = RX1 ∧ yX1_part.cls ≠ "java/lang/invoke/MethodHandle" ∧ yX1_part.cls ≠ "java/lang/invoke/VarHandle" ∧ (parseMethodDescriptor yX1_part.desc).map (fun d => d.parameters.length) = some 3 := by decide +kernel
def kvX1_part (a : Int64) (b : Int64) (pt : Int32) : Int64 := if pt = 0 then (a / ((kl_gcd (kl_abs a) b 100).1)) else (b / ((kl_gcd (kl_abs a) b 100).1))
set_option maxHeartbeats 4000000 in
set_option maxRecDepth 100000 in
theorem kX1_part (l : Launch) (D : va_G) (cI : ClassId) (cZ : ClassId) (h b1 b2 b3 : Nat) (u d tr : Nat → Int32) (fn qn : Nat) (sd : Int64) (th : Int32) (a : Int64) (b : Int64) (pt : Int32) (hN : (kl_gcd (kl_abs a) b 100).2 = 0) (hz : ¬ (kl_gcd (kl_abs a) b 100).1 = 0) : RoL l yX1_part wsX1_part ({ frames := 1, cells := 0, slots := 0, locals := 29 } : Room) [.ref h, .long a, .long b, .int pt] D (mW cI cZ h b1 b2 b3 u d tr (nI fn) (nI qn) sd th) [(cI, .int), (cZ, .boolean)] (kvX1_part a b pt) := by
  refine oo_head (C := RX1) (cc := cX1_part) (maxL := 8) (ret := (some .long)) (by decide) rfl rfl (Nat.le_of_ble_eq_true rfl) ?_
  intro p e s m below meth c hx hb hr hlocks hml hown hnm hts hpre ls hl
  have hl : lv_has ls 8 [(0, .ref h), (1, .long a), (3, .long b), (5, .int pt)] := hl
  obtain ⟨hP, hK⟩ := hpre
  have hS : va_S oo_N s.heap s.heap [] := va_S.rf
  refine lv_lload_n hx hb dX1_part_0 rfl (lv_at hl 1 rfl) ?_
  refine lv_lload_n hx hb dX1_part_1 rfl (lv_at hl 2 rfl) ?_
  refine ro_calll (va_runS (As := [.long a, .long b]) (rest := []) ⟨hx, hb, hml, hown, hts⟩ (kX1_divisor l D a b hN) (va_cwS 2 hts gX1_part_X1_divisor rfl rfl rfl ok_X1_divisor ⟨Nat.le_of_ble_eq_true rfl, Nat.le_of_ble_eq_true rfl⟩) ⟨oo_blind, oo_ps hP hK [] rfl [] rfl⟩ rfl rfl hl.1 rfl (lv_room (Nat.le_of_ble_eq_true rfl)) dX1_part_2 ⟨Nat.le_of_ble_eq_true rfl, Nat.le_of_ble_eq_true rfl⟩) hP hS (fun H locs hP hS => ?_)
  refine lv_lstore (lv' := [(6, .long ((kl_gcd (kl_abs a) b 100).1)), (0, .ref h), (1, .long a), (3, .long b), (5, .int pt)]) hx hb dX1_part_5 hl (by decide) rfl (fun ls hl => ?_)
  refine lv_iload hx hb dX1_part_7 (lv_at hl 4 rfl) ?_
  refine lv_if_ne (tgt := 19) hx hb dX1_part_9 (by decide) (fun c_9 => ?_) (fun c_9 => ?_)
  · refine lv_lload_n hx hb dX1_part_19 rfl (lv_at hl 3 rfl) ?_
    refine lv_lload hx hb dX1_part_20 (lv_at hl 0 rfl) ?_
    refine lv_ldiv hx hb dX1_part_22 hz ?_
    exact ro_retl hx hb hr hlocks hS (by unfold kvX1_part; rw [if_neg c_9]) dX1_part_23
  · refine lv_lload_n hx hb dX1_part_12 rfl (lv_at hl 2 rfl) ?_
    refine lv_lload hx hb dX1_part_13 (lv_at hl 0 rfl) ?_
    refine lv_ldiv hx hb dX1_part_15 hz ?_
    refine lv_goto (tgt := 23) hx hb dX1_part_16 (by decide) ?_
    exact ro_retl hx hb hr hlocks hS (by unfold kvX1_part; rw [if_pos c_9]) dX1_part_23
theorem ok_X1_chance : yX1_chance.cls = RX1 ∧ yX1_chance.cls ≠ "java/lang/invoke/MethodHandle" ∧ yX1_chance.cls ≠ "java/lang/invoke/VarHandle" ∧ (parseMethodDescriptor yX1_chance.desc).map (fun d => d.parameters.length) = some 2 := by decide +kernel
def kvX1_chance (u : Nat → Int32) (d : Nat → Int32) (tr : Nat → Int32) (fn : Nat) (qn : Nat) (q : Int32) (pt : Int32) : Int64 := if (kvX1_isQuestion qn q) = 0 then (-1 : Int64) else (if pt = 0 then (kvX1_part (kvX1_sum u d tr fn q.toNatClampNeg) (kvX1_all d fn) pt) else (if pt = (1 : Int32) then (kvX1_part (kvX1_sum u d tr fn q.toNatClampNeg) (kvX1_all d fn) pt) else (-1 : Int64)))
set_option maxHeartbeats 4000000 in
set_option maxRecDepth 100000 in
theorem kX1_chance (l : Launch) (D : va_G) (cI : ClassId) (cZ : ClassId) (h b1 b2 b3 : Nat) (u d tr : Nat → Int32) (fn qn : Nat) (sd : Int64) (th : Int32) (q : Int32) (pt : Int32) (hfn : fn ≤ 12) (hqn : qn ≤ 40) (h01 : oo_01 tr) (hN : ¬ kvX1_isQuestion qn q = 0 → (kl_gcd (kl_abs (kvX1_sum u d tr fn q.toNatClampNeg)) (kvX1_all d fn) 100).2 = 0) (hz : ¬ kvX1_isQuestion qn q = 0 → ¬ (kl_gcd (kl_abs (kvX1_sum u d tr fn q.toNatClampNeg)) (kvX1_all d fn) 100).1 = 0) : MuL l yX1_chance wsX1_chance ({ frames := 2, cells := 0, slots := 0, locals := 56 } : Room) [.ref h, .int q, .int pt] D (mW cI cZ h b1 b2 b3 u d tr (nI fn) (nI qn) sd th) [(cI, .int), (cZ, .boolean)] (mW cI cZ h b1 b2 b3 u d tr (nI fn) (nI qn) sd (0 : Int32)) (kvX1_chance u d tr fn qn q pt) := by
  intro sz
  refine oo_head (C := RX1) (cc := cX1_chance) (maxL := 3) (ret := (some .long)) (by decide) rfl rfl (Nat.le_of_ble_eq_true rfl) ?_
  intro p e s m below meth c hx hb hr hlocks hml hown hnm hts hpre ls hl
  have hl : lv_has ls 3 [(0, .ref h), (1, .int q), (2, .int pt)] := hl
  obtain ⟨rfl, hP, hK, hD0⟩ := hpre
  have hD := hD0.self (sz := s.heap.size)
  have hA := oo_A (mW cI cZ h b1 b2 b3 u d tr (nI fn) (nI qn) sd th) s
  have hS : va_S (va_A (mW cI cZ h b1 b2 b3 u d tr (nI fn) (nI qn) sd th) s.heap.size) s.heap s.heap [] := va_S.rf
  have hin : ∀ w ∈ wsX10, w ∈ wsX1_chance := fun w h => List.mem_cons_of_mem _ (List.mem_append_right _ h)
  refine lv_aload_n hx hb dX1_chance_0 rfl (lv_at hl 0 rfl) ?_
  refine lv_iconst (v := (0 : Int32)) hx hb dX1_chance_1 (by decide) ?_
  refine va_put (D := D) (ci := 1) (v := .int (0 : Int32)) (ty := .int) (C := RX1) (T := TX1) (N := 7) hx hb hts hin tyX1 tyX1_ok nmX1 hown hK hP hD hS 0 rfl rfl 6 (by decide) (hts (.fieldLink RX1 21 "OddsSamplingModel" "thrown" "I") (by decide +kernel)) (fun _ h9 => h9) rfl (by decide +kernel) rfl rfl (Nat.le_of_ble_eq_true rfl) dX1_chance_2 (fun H locs hP hD hS => ?_)
  have hP : va_P D vwCl (mW cI cZ h b1 b2 b3 u d tr (nI fn) (nI qn) sd (0 : Int32)) H := hP
  have hD : va_D _ (mW cI cZ h b1 b2 b3 u d tr (nI fn) (nI qn) sd (0 : Int32)) := hD
  refine lv_aload_n hx hb dX1_chance_5 rfl (lv_at hl 0 rfl) ?_
  refine lv_iload_n hx hb dX1_chance_6 rfl (lv_at hl 1 rfl) ?_
  refine ro_calli (va_runV (As := [.int q]) (rest := []) ⟨hx, hb, hml, hown, hts⟩ (kX1_isQuestion l D cI cZ h b1 b2 b3 u d tr fn qn sd (0 : Int32) q) (cwV 1 hts gX1_chance_X1_isQuestion rfl rfl rfl ok_X1_isQuestion ⟨Nat.le_of_ble_eq_true rfl, Nat.le_of_ble_eq_true rfl⟩) ⟨oo_blind, va_recv hK hP (ci := 1) (q0 := 0) rfl rfl, oo_ps hP hK [0, 1, 2, 3] rfl [0, 1] rfl⟩ rfl rfl hl.1 rfl (lv_room (Nat.le_of_ble_eq_true rfl)) dX1_chance_7 ⟨Nat.le_of_ble_eq_true rfl, Nat.le_of_ble_eq_true rfl⟩) hP hS (fun H locs hP hS => ?_)
  refine lv_if_eq (tgt := 39) hx hb dX1_chance_10 (by decide) (fun c_10 => ?_) (fun c_10 => ?_)
  · refine lv_ldc2 hx hb hown (hts (.constantLong RX1 68 (-1)) (by decide +kernel)) dX1_chance_39 ?_
    exact mu_retl hx hb hr hlocks hP hD hS (by unfold kvX1_chance; rw [if_pos c_10]) dX1_chance_42
  · obtain ⟨hq1, hq2⟩ := oo_isQ hqn c_10
    refine lv_iload_n hx hb dX1_chance_13 rfl (lv_at hl 2 rfl) ?_
    refine lv_if_eq (tgt := 22) hx hb dX1_chance_14 (by decide) (fun c_14 => ?_) (fun c_14 => ?_)
    · refine lv_aload_n hx hb dX1_chance_22 rfl (lv_at hl 0 rfl) ?_
      refine lv_aload_n hx hb dX1_chance_23 rfl (lv_at hl 0 rfl) ?_
      refine lv_iload_n hx hb dX1_chance_24 rfl (lv_at hl 1 rfl) ?_
      refine oo_topI (y := nI q.toNatClampNeg) hq1 ?_
      refine ro_calll (va_runV (As := [.int (nI q.toNatClampNeg)]) (rest := [.ref h]) ⟨hx, hb, hml, hown, hts⟩ (kX1_sum l D cI cZ h b1 b2 b3 u d tr fn qn sd (0 : Int32) q.toNatClampNeg hfn (by omega) h01) (cwV 1 hts gX1_chance_X1_sum rfl rfl rfl ok_X1_sum ⟨Nat.le_of_ble_eq_true rfl, Nat.le_of_ble_eq_true rfl⟩) ⟨oo_blind, va_recv hK hP (ci := 1) (q0 := 0) rfl rfl, oo_ps hP hK [0, 1, 2, 3] rfl [0, 1] rfl⟩ rfl rfl hl.1 rfl (lv_room (Nat.le_of_ble_eq_true rfl)) dX1_chance_25 ⟨Nat.le_of_ble_eq_true rfl, Nat.le_of_ble_eq_true rfl⟩) hP hS (fun H locs hP hS => ?_)
      refine lv_aload_n hx hb dX1_chance_28 rfl (lv_at hl 0 rfl) ?_
      refine ro_calll (va_runV (As := []) (rest := [.long (kvX1_sum u d tr fn q.toNatClampNeg), .ref h]) ⟨hx, hb, hml, hown, hts⟩ (kX1_all l D cI cZ h b1 b2 b3 u d tr fn qn sd (0 : Int32) hfn) (cwV 0 hts gX1_chance_X1_all rfl rfl rfl ok_X1_all ⟨Nat.le_of_ble_eq_true rfl, Nat.le_of_ble_eq_true rfl⟩) ⟨oo_blind, va_recv hK hP (ci := 1) (q0 := 0) rfl rfl, oo_ps hP hK [0, 1, 2, 3] rfl [0, 1] rfl⟩ rfl rfl hl.1 rfl (lv_room (Nat.le_of_ble_eq_true rfl)) dX1_chance_29 ⟨Nat.le_of_ble_eq_true rfl, Nat.le_of_ble_eq_true rfl⟩) hP hS (fun H locs hP hS => ?_)
      refine lv_iload_n hx hb dX1_chance_32 rfl (lv_at hl 2 rfl) ?_
      refine ro_calll (va_runV (As := [.long (kvX1_sum u d tr fn q.toNatClampNeg), .long (kvX1_all d fn), .int pt]) (rest := []) ⟨hx, hb, hml, hown, hts⟩ (kX1_part l D cI cZ h b1 b2 b3 u d tr fn qn sd (0 : Int32) (kvX1_sum u d tr fn q.toNatClampNeg) (kvX1_all d fn) pt (hN c_10) (hz c_10)) (cwV 3 hts gX1_chance_X1_part rfl rfl rfl ok_X1_part ⟨Nat.le_of_ble_eq_true rfl, Nat.le_of_ble_eq_true rfl⟩) ⟨oo_blind, va_recv hK hP (ci := 1) (q0 := 0) rfl rfl, oo_ps hP hK [0, 1, 2, 3] rfl [0, 1] rfl⟩ rfl rfl hl.1 rfl (lv_room (Nat.le_of_ble_eq_true rfl)) dX1_chance_33 ⟨Nat.le_of_ble_eq_true rfl, Nat.le_of_ble_eq_true rfl⟩) hP hS (fun H locs hP hS => ?_)
      refine lv_goto (tgt := 42) hx hb dX1_chance_36 (by decide) ?_
      exact mu_retl hx hb hr hlocks hP hD hS (by unfold kvX1_chance; rw [if_neg c_10, if_pos c_14]) dX1_chance_42
    · refine lv_iload_n hx hb dX1_chance_17 rfl (lv_at hl 2 rfl) ?_
      refine lv_iconst (v := (1 : Int32)) hx hb dX1_chance_18 (by decide) ?_
      refine lv_icmp_ne (tgt := 39) hx hb dX1_chance_19 (by decide) (fun c_19 => ?_) (fun c_19 => ?_)
      · refine lv_ldc2 hx hb hown (hts (.constantLong RX1 68 (-1)) (by decide +kernel)) dX1_chance_39 ?_
        exact mu_retl hx hb hr hlocks hP hD hS (by unfold kvX1_chance; rw [if_neg c_10, if_neg c_14, if_neg c_19]) dX1_chance_42
      · refine lv_aload_n hx hb dX1_chance_22 rfl (lv_at hl 0 rfl) ?_
        refine lv_aload_n hx hb dX1_chance_23 rfl (lv_at hl 0 rfl) ?_
        refine lv_iload_n hx hb dX1_chance_24 rfl (lv_at hl 1 rfl) ?_
        refine oo_topI (y := nI q.toNatClampNeg) hq1 ?_
        refine ro_calll (va_runV (As := [.int (nI q.toNatClampNeg)]) (rest := [.ref h]) ⟨hx, hb, hml, hown, hts⟩ (kX1_sum l D cI cZ h b1 b2 b3 u d tr fn qn sd (0 : Int32) q.toNatClampNeg hfn (by omega) h01) (cwV 1 hts gX1_chance_X1_sum rfl rfl rfl ok_X1_sum ⟨Nat.le_of_ble_eq_true rfl, Nat.le_of_ble_eq_true rfl⟩) ⟨oo_blind, va_recv hK hP (ci := 1) (q0 := 0) rfl rfl, oo_ps hP hK [0, 1, 2, 3] rfl [0, 1] rfl⟩ rfl rfl hl.1 rfl (lv_room (Nat.le_of_ble_eq_true rfl)) dX1_chance_25 ⟨Nat.le_of_ble_eq_true rfl, Nat.le_of_ble_eq_true rfl⟩) hP hS (fun H locs hP hS => ?_)
        refine lv_aload_n hx hb dX1_chance_28 rfl (lv_at hl 0 rfl) ?_
        refine ro_calll (va_runV (As := []) (rest := [.long (kvX1_sum u d tr fn q.toNatClampNeg), .ref h]) ⟨hx, hb, hml, hown, hts⟩ (kX1_all l D cI cZ h b1 b2 b3 u d tr fn qn sd (0 : Int32) hfn) (cwV 0 hts gX1_chance_X1_all rfl rfl rfl ok_X1_all ⟨Nat.le_of_ble_eq_true rfl, Nat.le_of_ble_eq_true rfl⟩) ⟨oo_blind, va_recv hK hP (ci := 1) (q0 := 0) rfl rfl, oo_ps hP hK [0, 1, 2, 3] rfl [0, 1] rfl⟩ rfl rfl hl.1 rfl (lv_room (Nat.le_of_ble_eq_true rfl)) dX1_chance_29 ⟨Nat.le_of_ble_eq_true rfl, Nat.le_of_ble_eq_true rfl⟩) hP hS (fun H locs hP hS => ?_)
        refine lv_iload_n hx hb dX1_chance_32 rfl (lv_at hl 2 rfl) ?_
        refine ro_calll (va_runV (As := [.long (kvX1_sum u d tr fn q.toNatClampNeg), .long (kvX1_all d fn), .int pt]) (rest := []) ⟨hx, hb, hml, hown, hts⟩ (kX1_part l D cI cZ h b1 b2 b3 u d tr fn qn sd (0 : Int32) (kvX1_sum u d tr fn q.toNatClampNeg) (kvX1_all d fn) pt (hN c_10) (hz c_10)) (cwV 3 hts gX1_chance_X1_part rfl rfl rfl ok_X1_part ⟨Nat.le_of_ble_eq_true rfl, Nat.le_of_ble_eq_true rfl⟩) ⟨oo_blind, va_recv hK hP (ci := 1) (q0 := 0) rfl rfl, oo_ps hP hK [0, 1, 2, 3] rfl [0, 1] rfl⟩ rfl rfl hl.1 rfl (lv_room (Nat.le_of_ble_eq_true rfl)) dX1_chance_33 ⟨Nat.le_of_ble_eq_true rfl, Nat.le_of_ble_eq_true rfl⟩) hP hS (fun H locs hP hS => ?_)
        refine lv_goto (tgt := 42) hx hb dX1_chance_36 (by decide) ?_
        exact mu_retl hx hb hr hlocks hP hD hS (by unfold kvX1_chance; rw [if_neg c_10, if_neg c_14, if_pos c_19]) dX1_chance_42
def kl_ms (b : Int64) (a : Int64) : Nat → Int64 × Int64
  | 0 => (a / b, a - a / b * b)
  | n + 1 => ((10 : Int64) * (kl_ms b a n).1 + ((10 : Int64) * (kl_ms b a n).2) / b, ((10 : Int64) * (kl_ms b a n).2) - ((10 : Int64) * (kl_ms b a n).2) / b * b)
theorem ok_X1_millionths : yX1_millionths.cls ≠ "java/lang/invoke/MethodHandle" ∧ yX1_millionths.cls ≠ "java/lang/invoke/VarHandle" ∧ (parseMethodDescriptor yX1_millionths.desc).map (fun d => d.parameters.length) = some 2 := by decide +kernel
def kvX1_millionths (a : Int64) (b : Int64) : Int64 := (kl_ms b a 6).1
set_option maxHeartbeats 4000000 in
set_option maxRecDepth 100000 in
theorem kX1_millionths (l : Launch) (D : va_G) (a : Int64) (b : Int64) (hb9 : ¬ b = 0) : RoL l yX1_millionths wsX1_millionths ({ frames := 0, cells := 0, slots := 0, locals := 0 } : Room) [.long a, .long b] D ([]) [] (kvX1_millionths a b) := by
  refine oo_head (C := RX1) (cc := cX1_millionths) (maxL := 9) (ret := (some .long)) (by decide) rfl rfl (Nat.le_of_ble_eq_true rfl) ?_
  intro p e s m below meth c hx hb hr hlocks hml hown hnm hts hpre ls hl
  have hl : lv_has ls 9 [(0, .long a), (2, .long b)] := hl
  obtain ⟨hP, hK⟩ := hpre
  have hS : va_S oo_N s.heap s.heap [] := va_S.rf
  refine lv_lload_n hx hb dX1_millionths_0 rfl (lv_at hl 0 rfl) ?_
  refine lv_lload_n hx hb dX1_millionths_1 rfl (lv_at hl 1 rfl) ?_
  refine lv_ldiv hx hb dX1_millionths_2 hb9 ?_
  refine lv_lstore (lv' := [(4, .long (a / b)), (0, .long a), (2, .long b)]) hx hb dX1_millionths_3 hl (by decide) rfl (fun ls hl => ?_)
  refine lv_lload_n hx hb dX1_millionths_5 rfl (lv_at hl 1 rfl) ?_
  refine lv_lload_n hx hb dX1_millionths_6 rfl (lv_at hl 2 rfl) ?_
  refine lv_lrem hx hb dX1_millionths_7 hb9 ?_
  refine lv_lstore (lv' := [(6, .long (a - a / b * b)), (4, .long (a / b)), (0, .long a), (2, .long b)]) hx hb dX1_millionths_8 hl (by decide) rfl (fun ls hl => ?_)
  refine lv_iconst (v := nI 0) hx hb dX1_millionths_10 (by decide) ?_
  refine lv_istore (lv' := [(8, .int (nI 0)), (6, .long (a - a / b * b)), (4, .long (a / b)), (0, .long a), (2, .long b)]) hx hb dX1_millionths_11 hl (by decide) rfl (fun ls hl => ?_)
  have hl : lv_has ls 9 [(0, .long a), (2, .long b), (4, .long (a / b)), (6, .long (a - a / b * b)), (8, .int (nI 0))] := lv_sub hl [3, 4, 2, 1, 0] rfl
  have hl := Eq.mp (congrArg (fun z9 => lv_has ls 9 [(0, .long a), (2, .long b), (4, .long z9), (6, .long (a - a / b * b)), (8, .int (nI 0))]) (show a / b = (kl_ms b a 0).1 from (by simp only [kl_ms]))) hl
  have hl := Eq.mp (congrArg (fun z9 => lv_has ls 9 [(0, .long a), (2, .long b), (4, .long ((kl_ms b a 0).1)), (6, .long z9), (8, .int (nI 0))]) (show a - a / b * b = (kl_ms b a 0).2 from (by simp only [kl_ms]))) hl
  refine oo_loop (N := 6) (fun n H locs ls => va_P D vwCl ([]) H ∧ va_S (oo_N) s.heap H locs ∧ lv_has ls 9 [(0, .long a), (2, .long b), (4, .long ((kl_ms b a n).1)), (6, .long ((kl_ms b a n).2)), (8, .int (nI n))]) ?_ ?_ 0 (Nat.zero_le _) ⟨hP, hS, hl⟩
  · intro H locs ls hI
    obtain ⟨hP, hS, hl⟩ := hI
    refine lv_iload hx hb dX1_millionths_13 (lv_at hl 4 rfl) ?_
    refine lv_bipush (v := nI 6) hx hb dX1_millionths_15 (by decide) ?_
    refine lv_icmp_ge (tgt := 53) hx hb dX1_millionths_17 (by decide) (fun c_17 => ?_) (fun c_17 => ?_)
    · refine lv_lload hx hb dX1_millionths_53 (lv_at hl 2 rfl) ?_
      exact ro_retl hx hb hr hlocks hS (by unfold kvX1_millionths; rfl) dX1_millionths_55
    · exact absurd (nI_le (Nat.le_refl _) (by omega)) c_17
  · intro n hltn ihn H locs ls hI
    obtain ⟨hP, hS, hl⟩ := hI
    refine lv_iload hx hb dX1_millionths_13 (lv_at hl 4 rfl) ?_
    refine lv_bipush (v := nI 6) hx hb dX1_millionths_15 (by decide) ?_
    refine lv_icmp_ge (tgt := 53) hx hb dX1_millionths_17 (by decide) (fun c_17 => ?_) (fun c_17 => ?_)
    · exact absurd c_17 (nI_ge hltn (by omega))
    · refine lv_ldc2 hx hb hown (hts (.constantLong RX1 72 (10)) (by decide +kernel)) dX1_millionths_20 ?_
      refine lv_lload hx hb dX1_millionths_23 (lv_at hl 3 rfl) ?_
      refine lv_lmul hx hb dX1_millionths_25 ?_
      refine lv_lstore (lv' := [(6, .long ((10 : Int64) * ((kl_ms b a n).2))), (0, .long a), (2, .long b), (4, .long ((kl_ms b a n).1)), (8, .int (nI n))]) hx hb dX1_millionths_26 hl (by decide) rfl (fun ls hl => ?_)
      refine lv_ldc2 hx hb hown (hts (.constantLong RX1 72 (10)) (by decide +kernel)) dX1_millionths_28 ?_
      refine lv_lload hx hb dX1_millionths_31 (lv_at hl 3 rfl) ?_
      refine lv_lmul hx hb dX1_millionths_33 ?_
      refine lv_lload hx hb dX1_millionths_34 (lv_at hl 0 rfl) ?_
      refine lv_lload_n hx hb dX1_millionths_36 rfl (lv_at hl 2 rfl) ?_
      refine lv_ldiv hx hb dX1_millionths_37 hb9 ?_
      refine lv_ladd hx hb dX1_millionths_38 ?_
      refine lv_lstore (lv' := [(4, .long (((10 : Int64) * ((kl_ms b a n).1)) + (((10 : Int64) * ((kl_ms b a n).2)) / b))), (6, .long ((10 : Int64) * ((kl_ms b a n).2))), (0, .long a), (2, .long b), (8, .int (nI n))]) hx hb dX1_millionths_39 hl (by decide) rfl (fun ls hl => ?_)
      refine lv_lload hx hb dX1_millionths_41 (lv_at hl 1 rfl) ?_
      refine lv_lload_n hx hb dX1_millionths_43 rfl (lv_at hl 3 rfl) ?_
      refine lv_lrem hx hb dX1_millionths_44 hb9 ?_
      refine lv_lstore (lv' := [(6, .long (((10 : Int64) * ((kl_ms b a n).2)) - ((10 : Int64) * ((kl_ms b a n).2)) / b * b)), (4, .long (((10 : Int64) * ((kl_ms b a n).1)) + (((10 : Int64) * ((kl_ms b a n).2)) / b))), (0, .long a), (2, .long b), (8, .int (nI n))]) hx hb dX1_millionths_45 hl (by decide) rfl (fun ls hl => ?_)
      refine lv_iinc (v := nI (n + 1)) (lv' := [(8, .int (nI (n + 1))), (6, .long (((10 : Int64) * ((kl_ms b a n).2)) - ((10 : Int64) * ((kl_ms b a n).2)) / b * b)), (4, .long (((10 : Int64) * ((kl_ms b a n).1)) + (((10 : Int64) * ((kl_ms b a n).2)) / b))), (0, .long a), (2, .long b)]) hx hb dX1_millionths_47 hl (k := 4) rfl (oo_inc n 1) (by decide) rfl (fun ls hl => ?_)
      refine lv_goto (tgt := 13) hx hb dX1_millionths_50 (by decide) ?_
      have hl : lv_has ls 9 [(0, .long a), (2, .long b), (4, .long (((10 : Int64) * ((kl_ms b a n).1)) + (((10 : Int64) * ((kl_ms b a n).2)) / b))), (6, .long (((10 : Int64) * ((kl_ms b a n).2)) - ((10 : Int64) * ((kl_ms b a n).2)) / b * b)), (8, .int (nI (n + 1)))] := lv_sub hl [3, 4, 2, 1, 0] rfl
      have hl := Eq.mp (congrArg (fun z9 => lv_has ls 9 [(0, .long a), (2, .long b), (4, .long z9), (6, .long (((10 : Int64) * ((kl_ms b a n).2)) - ((10 : Int64) * ((kl_ms b a n).2)) / b * b)), (8, .int (nI (n + 1)))]) (show ((10 : Int64) * ((kl_ms b a n).1)) + (((10 : Int64) * ((kl_ms b a n).2)) / b) = (kl_ms b a (n + 1)).1 from (by simp only [kl_ms]))) hl
      have hl := Eq.mp (congrArg (fun z9 => lv_has ls 9 [(0, .long a), (2, .long b), (4, .long ((kl_ms b a (n + 1)).1)), (6, .long z9), (8, .int (nI (n + 1)))]) (show ((10 : Int64) * ((kl_ms b a n).2)) - ((10 : Int64) * ((kl_ms b a n).2)) / b * b = (kl_ms b a (n + 1)).2 from (by simp only [kl_ms]))) hl
      exact ihn _ _ _ ⟨hP, hS, hl⟩
def kl_gof (u d tr : Nat → Int32) (fn r : Nat) : Nat → Int64
  | 0 => 0
  | n + 1 => if tr (4096 * r + n) = 0 then kl_gof u d tr fn r n else kl_gof u d tr fn r n + kvX1_weigh u d fn (nI n)
def kl_gbo (u d tr : Nat → Int32) (fn q r : Nat) : Nat → Int64
  | 0 => 0
  | n + 1 => if tr (4096 * r + n) = 0 then kl_gbo u d tr fn q r n else (if tr (4096 * q + n) = 0 then kl_gbo u d tr fn q r n + 0 else kl_gbo u d tr fn q r n + kvX1_weigh u d fn (nI n))
theorem ok_X1_given : yX1_given.cls = RX1 ∧ yX1_given.cls ≠ "java/lang/invoke/MethodHandle" ∧ yX1_given.cls ≠ "java/lang/invoke/VarHandle" ∧ (parseMethodDescriptor yX1_given.desc).map (fun d => d.parameters.length) = some 2 := by decide +kernel
def kvX1_given (u : Nat → Int32) (d : Nat → Int32) (tr : Nat → Int32) (fn : Nat) (qn : Nat) (q : Int32) (r : Int32) : Int64 := if (kvX1_isQuestion qn q) = 0 then (0 : Int64) else (if (kvX1_isQuestion qn r) = 0 then (0 : Int64) else (if (lg_cmp (kl_gof u d tr fn r.toNatClampNeg (2 ^ fn)) (0 : Int64)) = 0 then (if (lg_cmp (kl_gof u d tr fn r.toNatClampNeg (2 ^ fn)) (0 : Int64)) = 0 then (0 : Int64) else (kvX1_millionths (kl_gbo u d tr fn q.toNatClampNeg r.toNatClampNeg (2 ^ fn)) (kl_gof u d tr fn r.toNatClampNeg (2 ^ fn)))) else (if (lg_cmp (kl_gof u d tr fn r.toNatClampNeg (2 ^ fn)) (0 : Int64)) = 0 then (0 : Int64) else (kvX1_millionths (kl_gbo u d tr fn q.toNatClampNeg r.toNatClampNeg (2 ^ fn)) (kl_gof u d tr fn r.toNatClampNeg (2 ^ fn))))))
def kvX1_given_th (u : Nat → Int32) (d : Nat → Int32) (tr : Nat → Int32) (fn : Nat) (qn : Nat) (q : Int32) (r : Int32) : Int32 := if (kvX1_isQuestion qn q) = 0 then (0 : Int32) else (if (kvX1_isQuestion qn r) = 0 then (0 : Int32) else (if (lg_cmp (kl_gof u d tr fn r.toNatClampNeg (2 ^ fn)) (0 : Int64)) = 0 then (if (lg_cmp (kl_gof u d tr fn r.toNatClampNeg (2 ^ fn)) (0 : Int64)) = 0 then (1 : Int32) else (1 : Int32)) else (if (lg_cmp (kl_gof u d tr fn r.toNatClampNeg (2 ^ fn)) (0 : Int64)) = 0 then (0 : Int32) else (0 : Int32))))
set_option maxHeartbeats 4000000 in
set_option maxRecDepth 100000 in
theorem kX1_given (l : Launch) (D : va_G) (cI : ClassId) (cZ : ClassId) (h b1 b2 b3 : Nat) (u d tr : Nat → Int32) (fn qn : Nat) (sd : Int64) (th : Int32) (q : Int32) (r : Int32) (hfn : fn ≤ 12) (hqn : qn ≤ 40) (h01 : oo_01 tr) : MuL l yX1_given wsX1_given ({ frames := 1, cells := 0, slots := 0, locals := 28 } : Room) [.ref h, .int q, .int r] D (mW cI cZ h b1 b2 b3 u d tr (nI fn) (nI qn) sd th) [(cI, .int), (cZ, .boolean)] (mW cI cZ h b1 b2 b3 u d tr (nI fn) (nI qn) sd (kvX1_given_th u d tr fn qn q r)) (kvX1_given u d tr fn qn q r) := by
  intro sz
  refine oo_head (C := RX1) (cc := cX1_given) (maxL := 8) (ret := (some .long)) (by decide) rfl rfl (Nat.le_of_ble_eq_true rfl) ?_
  intro p e s m below meth c hx hb hr hlocks hml hown hnm hts hpre ls hl
  have hl : lv_has ls 8 [(0, .ref h), (1, .int q), (2, .int r)] := hl
  obtain ⟨rfl, hP, hK, hD0⟩ := hpre
  have hD := hD0.self (sz := s.heap.size)
  have hA := oo_A (mW cI cZ h b1 b2 b3 u d tr (nI fn) (nI qn) sd th) s
  have hS : va_S (va_A (mW cI cZ h b1 b2 b3 u d tr (nI fn) (nI qn) sd th) s.heap.size) s.heap s.heap [] := va_S.rf
  have hin : ∀ w ∈ wsX10, w ∈ wsX1_given := fun w h => List.mem_cons_of_mem _ (List.mem_append_right _ h)
  have h2n : 2 ^ fn ≤ 2 ^ 12 := Nat.pow_le_pow_right (by omega) hfn
  refine lv_aload_n hx hb dX1_given_0 rfl (lv_at hl 0 rfl) ?_
  refine lv_iconst (v := (0 : Int32)) hx hb dX1_given_1 (by decide) ?_
  refine va_put (D := D) (ci := 1) (v := .int (0 : Int32)) (ty := .int) (C := RX1) (T := TX1) (N := 7) hx hb hts hin tyX1 tyX1_ok nmX1 hown hK hP hD hS 0 rfl rfl 6 (by decide) (hts (.fieldLink RX1 21 "OddsSamplingModel" "thrown" "I") (by decide +kernel)) (fun _ h9 => h9) rfl (by decide +kernel) rfl rfl (Nat.le_of_ble_eq_true rfl) dX1_given_2 (fun H locs hP hD hS => ?_)
  have hP : va_P D vwCl (mW cI cZ h b1 b2 b3 u d tr (nI fn) (nI qn) sd (0 : Int32)) H := hP
  have hD : va_D _ (mW cI cZ h b1 b2 b3 u d tr (nI fn) (nI qn) sd (0 : Int32)) := hD
  refine lv_aload_n hx hb dX1_given_5 rfl (lv_at hl 0 rfl) ?_
  refine lv_iload_n hx hb dX1_given_6 rfl (lv_at hl 1 rfl) ?_
  refine ro_calli (va_runV (As := [.int q]) (rest := []) ⟨hx, hb, hml, hown, hts⟩ (kX1_isQuestion l D cI cZ h b1 b2 b3 u d tr fn qn sd (0 : Int32) q) (cwV 1 hts gX1_given_X1_isQuestion rfl rfl rfl ok_X1_isQuestion ⟨Nat.le_of_ble_eq_true rfl, Nat.le_of_ble_eq_true rfl⟩) ⟨oo_blind, va_recv hK hP (ci := 1) (q0 := 0) rfl rfl, oo_ps hP hK [0, 1, 2, 3] rfl [0, 1] rfl⟩ rfl rfl hl.1 rfl (lv_room (Nat.le_of_ble_eq_true rfl)) dX1_given_7 ⟨Nat.le_of_ble_eq_true rfl, Nat.le_of_ble_eq_true rfl⟩) hP hS (fun H locs hP hS => ?_)
  refine lv_if_eq (tgt := 21) hx hb dX1_given_10 (by decide) (fun c_10 => ?_) (fun c_10 => ?_)
  · refine lv_lconst (v := (0 : Int64)) hx hb dX1_given_21 (by decide) ?_
    have hP := Eq.mp (congrArg (fun z9 => va_P D vwCl (mW cI cZ h b1 b2 b3 u d tr (nI fn) (nI qn) sd z9) H) (show (0 : Int32) = kvX1_given_th u d tr fn qn q r from (by unfold kvX1_given_th; rw [if_pos c_10]))) hP
    have hP : va_P D vwCl (mW cI cZ h b1 b2 b3 u d tr (nI fn) (nI qn) sd (kvX1_given_th u d tr fn qn q r)) H := hP
    have hD : va_D _ (mW cI cZ h b1 b2 b3 u d tr (nI fn) (nI qn) sd (kvX1_given_th u d tr fn qn q r)) := oo_Dre hD (oo_fc (oo_fc (oo_fc (oo_fc rfl))))
    exact mu_retl hx hb hr hlocks hP hD hS (by unfold kvX1_given; rw [if_pos c_10]) dX1_given_22
  · refine lv_aload_n hx hb dX1_given_13 rfl (lv_at hl 0 rfl) ?_
    refine lv_iload_n hx hb dX1_given_14 rfl (lv_at hl 2 rfl) ?_
    refine ro_calli (va_runV (As := [.int r]) (rest := []) ⟨hx, hb, hml, hown, hts⟩ (kX1_isQuestion l D cI cZ h b1 b2 b3 u d tr fn qn sd (0 : Int32) r) (cwV 1 hts gX1_given_X1_isQuestion rfl rfl rfl ok_X1_isQuestion ⟨Nat.le_of_ble_eq_true rfl, Nat.le_of_ble_eq_true rfl⟩) ⟨oo_blind, va_recv hK hP (ci := 1) (q0 := 0) rfl rfl, oo_ps hP hK [0, 1, 2, 3] rfl [0, 1] rfl⟩ rfl rfl hl.1 rfl (lv_room (Nat.le_of_ble_eq_true rfl)) dX1_given_15 ⟨Nat.le_of_ble_eq_true rfl, Nat.le_of_ble_eq_true rfl⟩) hP hS (fun H locs hP hS => ?_)
    refine lv_if_ne (tgt := 23) hx hb dX1_given_18 (by decide) (fun c_18 => ?_) (fun c_18 => ?_)
    · obtain ⟨hq1, hq2⟩ := oo_isQ hqn c_10
      obtain ⟨hr1, hr2⟩ := oo_isQ hqn c_18
      refine lv_lconst (v := (0 : Int64)) hx hb dX1_given_23 (by decide) ?_
      refine lv_lstore_n (lv' := [(3, .long (0 : Int64)), (0, .ref h), (1, .int q), (2, .int r)]) hx hb dX1_given_24 rfl hl (by decide) rfl (fun ls hl => ?_)
      refine lv_lconst (v := (0 : Int64)) hx hb dX1_given_25 (by decide) ?_
      refine lv_lstore (lv' := [(5, .long (0 : Int64)), (3, .long (0 : Int64)), (0, .ref h), (1, .int q), (2, .int r)]) hx hb dX1_given_26 hl (by decide) rfl (fun ls hl => ?_)
      refine lv_iconst (v := nI 0) hx hb dX1_given_28 (by decide) ?_
      refine lv_istore (lv' := [(7, .int (nI 0)), (5, .long (0 : Int64)), (3, .long (0 : Int64)), (0, .ref h), (1, .int q), (2, .int r)]) hx hb dX1_given_29 hl (by decide) rfl (fun ls hl => ?_)
      have hl : lv_has ls 8 [(0, .ref h), (1, .int q), (2, .int r), (3, .long (0 : Int64)), (5, .long (0 : Int64)), (7, .int (nI 0))] := lv_sub hl [3, 4, 5, 2, 1, 0] rfl
      have hl := Eq.mp (congrArg (fun z9 => lv_has ls 8 [(0, .ref h), (1, .int q), (2, .int r), (3, .long z9), (5, .long (0 : Int64)), (7, .int (nI 0))]) (show (0 : Int64) = kl_gof u d tr fn r.toNatClampNeg 0 from rfl)) hl
      have hl := Eq.mp (congrArg (fun z9 => lv_has ls 8 [(0, .ref h), (1, .int q), (2, .int r), (3, .long (kl_gof u d tr fn r.toNatClampNeg 0)), (5, .long z9), (7, .int (nI 0))]) (show (0 : Int64) = kl_gbo u d tr fn q.toNatClampNeg r.toNatClampNeg 0 from rfl)) hl
      refine oo_loop (N := (2 ^ fn)) (fun n H locs ls => va_P D vwCl (mW cI cZ h b1 b2 b3 u d tr (nI fn) (nI qn) sd (0 : Int32)) H ∧ va_D (va_A (mW cI cZ h b1 b2 b3 u d tr (nI fn) (nI qn) sd th) s.heap.size) (mW cI cZ h b1 b2 b3 u d tr (nI fn) (nI qn) sd (0 : Int32)) ∧ va_S (va_A (mW cI cZ h b1 b2 b3 u d tr (nI fn) (nI qn) sd th) s.heap.size) s.heap H locs ∧ lv_has ls 8 [(0, .ref h), (1, .int q), (2, .int r), (3, .long (kl_gof u d tr fn r.toNatClampNeg n)), (5, .long (kl_gbo u d tr fn q.toNatClampNeg r.toNatClampNeg n)), (7, .int (nI n))]) ?_ ?_ 0 (Nat.zero_le _) ⟨hP, hD, hS, hl⟩
      · intro H locs ls hI
        obtain ⟨hP, hD, hS, hl⟩ := hI
        refine lv_iload hx hb dX1_given_31 (lv_at hl 5 rfl) ?_
        refine lv_iconst (v := (1 : Int32)) hx hb dX1_given_33 (by decide) ?_
        refine lv_aload_n hx hb dX1_given_34 rfl (lv_at hl 0 rfl) ?_
        refine va_get (D := D) (ci := 1) (v := .int (nI fn)) (C := RX1) (T := TX1) (N := 7) hx hb hts hin hown hK hP 0 rfl rfl 2 (by decide) (hts (.fieldLink RX1 28 "OddsSamplingModel" "facts" "I") (by decide +kernel)) (fun _ h9 => h9) rfl dX1_given_35 ?_
        refine lv_ishl hx hb dX1_given_38 ?_
        refine oo_topI (y := nI (2 ^ fn)) (oo_shl1 fn (by omega)) ?_
        refine lv_icmp_ge (tgt := 95) hx hb dX1_given_39 (by decide) (fun c_39 => ?_) (fun c_39 => ?_)
        · refine lv_aload_n hx hb dX1_given_95 rfl (lv_at hl 0 rfl) ?_
          refine lv_lload_n hx hb dX1_given_96 rfl (lv_at hl 3 rfl) ?_
          refine lv_lconst (v := (0 : Int64)) hx hb dX1_given_97 (by decide) ?_
          refine W.lcmp hx hb dX1_given_98 ?_
          refine lv_if_ne (tgt := 106) hx hb dX1_given_99 (by decide) (fun c_99 => ?_) (fun c_99 => ?_)
          · refine lv_iconst (v := (0 : Int32)) hx hb dX1_given_106 (by decide) ?_
            refine va_put (D := D) (ci := 1) (v := .int (0 : Int32)) (ty := .int) (C := RX1) (T := TX1) (N := 7) hx hb hts hin tyX1 tyX1_ok nmX1 hown hK hP hD hS 0 rfl rfl 6 (by decide) (hts (.fieldLink RX1 21 "OddsSamplingModel" "thrown" "I") (by decide +kernel)) (fun _ h9 => h9) rfl (by decide +kernel) rfl rfl (Nat.le_of_ble_eq_true rfl) dX1_given_107 (fun H locs hP hD hS => ?_)
            have hP : va_P D vwCl (mW cI cZ h b1 b2 b3 u d tr (nI fn) (nI qn) sd (0 : Int32)) H := hP
            have hD : va_D _ (mW cI cZ h b1 b2 b3 u d tr (nI fn) (nI qn) sd (0 : Int32)) := hD
            refine lv_lload_n hx hb dX1_given_110 rfl (lv_at hl 3 rfl) ?_
            refine lv_lconst (v := (0 : Int64)) hx hb dX1_given_111 (by decide) ?_
            refine W.lcmp hx hb dX1_given_112 ?_
            refine lv_if_ne (tgt := 120) hx hb dX1_given_113 (by decide) (fun c_113 => ?_) (fun c_113 => ?_)
            · refine lv_lload hx hb dX1_given_120 (lv_at hl 4 rfl) ?_
              refine lv_lload_n hx hb dX1_given_122 rfl (lv_at hl 3 rfl) ?_
              refine ro_calll (va_runS (As := [.long (kl_gbo u d tr fn q.toNatClampNeg r.toNatClampNeg (2 ^ fn)), .long (kl_gof u d tr fn r.toNatClampNeg (2 ^ fn))]) (rest := []) ⟨hx, hb, hml, hown, hts⟩ (kX1_millionths l D (kl_gbo u d tr fn q.toNatClampNeg r.toNatClampNeg (2 ^ fn)) (kl_gof u d tr fn r.toNatClampNeg (2 ^ fn)) (oo_nz2 c_113)) (va_cwS 2 hts gX1_given_X1_millionths rfl rfl rfl ok_X1_millionths ⟨Nat.le_of_ble_eq_true rfl, Nat.le_of_ble_eq_true rfl⟩) ⟨oo_blind, oo_ps hP hK [] rfl [] rfl⟩ rfl rfl hl.1 rfl (lv_room (Nat.le_of_ble_eq_true rfl)) dX1_given_123 ⟨Nat.le_of_ble_eq_true rfl, Nat.le_of_ble_eq_true rfl⟩) hP hS (fun H locs hP hS => ?_)
              have hP := Eq.mp (congrArg (fun z9 => va_P D vwCl (mW cI cZ h b1 b2 b3 u d tr (nI fn) (nI qn) sd z9) H) (show (0 : Int32) = kvX1_given_th u d tr fn qn q r from (by unfold kvX1_given_th; rw [if_neg c_10, if_neg c_18, if_neg c_99, if_neg c_113]))) hP
              have hP : va_P D vwCl (mW cI cZ h b1 b2 b3 u d tr (nI fn) (nI qn) sd (kvX1_given_th u d tr fn qn q r)) H := hP
              have hD : va_D _ (mW cI cZ h b1 b2 b3 u d tr (nI fn) (nI qn) sd (kvX1_given_th u d tr fn qn q r)) := oo_Dre hD (oo_fc (oo_fc (oo_fc (oo_fc rfl))))
              exact mu_retl hx hb hr hlocks hP hD hS (by unfold kvX1_given; rw [if_neg c_10, if_neg c_18, if_neg c_99, if_neg c_113]) dX1_given_126
            · refine lv_lconst (v := (0 : Int64)) hx hb dX1_given_116 (by decide) ?_
              refine lv_goto (tgt := 126) hx hb dX1_given_117 (by decide) ?_
              have hP := Eq.mp (congrArg (fun z9 => va_P D vwCl (mW cI cZ h b1 b2 b3 u d tr (nI fn) (nI qn) sd z9) H) (show (0 : Int32) = kvX1_given_th u d tr fn qn q r from (by unfold kvX1_given_th; rw [if_neg c_10, if_neg c_18, if_neg c_99, if_pos c_113]))) hP
              have hP : va_P D vwCl (mW cI cZ h b1 b2 b3 u d tr (nI fn) (nI qn) sd (kvX1_given_th u d tr fn qn q r)) H := hP
              have hD : va_D _ (mW cI cZ h b1 b2 b3 u d tr (nI fn) (nI qn) sd (kvX1_given_th u d tr fn qn q r)) := oo_Dre hD (oo_fc (oo_fc (oo_fc (oo_fc rfl))))
              exact mu_retl hx hb hr hlocks hP hD hS (by unfold kvX1_given; rw [if_neg c_10, if_neg c_18, if_neg c_99, if_pos c_113]) dX1_given_126
          · refine lv_iconst (v := (1 : Int32)) hx hb dX1_given_102 (by decide) ?_
            refine lv_goto (tgt := 107) hx hb dX1_given_103 (by decide) ?_
            refine va_put (D := D) (ci := 1) (v := .int (1 : Int32)) (ty := .int) (C := RX1) (T := TX1) (N := 7) hx hb hts hin tyX1 tyX1_ok nmX1 hown hK hP hD hS 0 rfl rfl 6 (by decide) (hts (.fieldLink RX1 21 "OddsSamplingModel" "thrown" "I") (by decide +kernel)) (fun _ h9 => h9) rfl (by decide +kernel) rfl rfl (Nat.le_of_ble_eq_true rfl) dX1_given_107 (fun H locs hP hD hS => ?_)
            have hP : va_P D vwCl (mW cI cZ h b1 b2 b3 u d tr (nI fn) (nI qn) sd (1 : Int32)) H := hP
            have hD : va_D _ (mW cI cZ h b1 b2 b3 u d tr (nI fn) (nI qn) sd (1 : Int32)) := hD
            refine lv_lload_n hx hb dX1_given_110 rfl (lv_at hl 3 rfl) ?_
            refine lv_lconst (v := (0 : Int64)) hx hb dX1_given_111 (by decide) ?_
            refine W.lcmp hx hb dX1_given_112 ?_
            refine lv_if_ne (tgt := 120) hx hb dX1_given_113 (by decide) (fun c_113 => ?_) (fun c_113 => ?_)
            · refine lv_lload hx hb dX1_given_120 (lv_at hl 4 rfl) ?_
              refine lv_lload_n hx hb dX1_given_122 rfl (lv_at hl 3 rfl) ?_
              refine ro_calll (va_runS (As := [.long (kl_gbo u d tr fn q.toNatClampNeg r.toNatClampNeg (2 ^ fn)), .long (kl_gof u d tr fn r.toNatClampNeg (2 ^ fn))]) (rest := []) ⟨hx, hb, hml, hown, hts⟩ (kX1_millionths l D (kl_gbo u d tr fn q.toNatClampNeg r.toNatClampNeg (2 ^ fn)) (kl_gof u d tr fn r.toNatClampNeg (2 ^ fn)) (oo_nz2 c_113)) (va_cwS 2 hts gX1_given_X1_millionths rfl rfl rfl ok_X1_millionths ⟨Nat.le_of_ble_eq_true rfl, Nat.le_of_ble_eq_true rfl⟩) ⟨oo_blind, oo_ps hP hK [] rfl [] rfl⟩ rfl rfl hl.1 rfl (lv_room (Nat.le_of_ble_eq_true rfl)) dX1_given_123 ⟨Nat.le_of_ble_eq_true rfl, Nat.le_of_ble_eq_true rfl⟩) hP hS (fun H locs hP hS => ?_)
              have hP := Eq.mp (congrArg (fun z9 => va_P D vwCl (mW cI cZ h b1 b2 b3 u d tr (nI fn) (nI qn) sd z9) H) (show (1 : Int32) = kvX1_given_th u d tr fn qn q r from (by unfold kvX1_given_th; rw [if_neg c_10, if_neg c_18, if_pos c_99, if_neg c_113]))) hP
              have hP : va_P D vwCl (mW cI cZ h b1 b2 b3 u d tr (nI fn) (nI qn) sd (kvX1_given_th u d tr fn qn q r)) H := hP
              have hD : va_D _ (mW cI cZ h b1 b2 b3 u d tr (nI fn) (nI qn) sd (kvX1_given_th u d tr fn qn q r)) := oo_Dre hD (oo_fc (oo_fc (oo_fc (oo_fc rfl))))
              exact mu_retl hx hb hr hlocks hP hD hS (by unfold kvX1_given; rw [if_neg c_10, if_neg c_18, if_pos c_99, if_neg c_113]) dX1_given_126
            · refine lv_lconst (v := (0 : Int64)) hx hb dX1_given_116 (by decide) ?_
              refine lv_goto (tgt := 126) hx hb dX1_given_117 (by decide) ?_
              have hP := Eq.mp (congrArg (fun z9 => va_P D vwCl (mW cI cZ h b1 b2 b3 u d tr (nI fn) (nI qn) sd z9) H) (show (1 : Int32) = kvX1_given_th u d tr fn qn q r from (by unfold kvX1_given_th; rw [if_neg c_10, if_neg c_18, if_pos c_99, if_pos c_113]))) hP
              have hP : va_P D vwCl (mW cI cZ h b1 b2 b3 u d tr (nI fn) (nI qn) sd (kvX1_given_th u d tr fn qn q r)) H := hP
              have hD : va_D _ (mW cI cZ h b1 b2 b3 u d tr (nI fn) (nI qn) sd (kvX1_given_th u d tr fn qn q r)) := oo_Dre hD (oo_fc (oo_fc (oo_fc (oo_fc rfl))))
              exact mu_retl hx hb hr hlocks hP hD hS (by unfold kvX1_given; rw [if_neg c_10, if_neg c_18, if_pos c_99, if_pos c_113]) dX1_given_126
        · exact absurd (nI_le (Nat.le_refl _) (by omega)) c_39
      · intro n hltn ihn H locs ls hI
        obtain ⟨hP, hD, hS, hl⟩ := hI
        refine lv_iload hx hb dX1_given_31 (lv_at hl 5 rfl) ?_
        refine lv_iconst (v := (1 : Int32)) hx hb dX1_given_33 (by decide) ?_
        refine lv_aload_n hx hb dX1_given_34 rfl (lv_at hl 0 rfl) ?_
        refine va_get (D := D) (ci := 1) (v := .int (nI fn)) (C := RX1) (T := TX1) (N := 7) hx hb hts hin hown hK hP 0 rfl rfl 2 (by decide) (hts (.fieldLink RX1 28 "OddsSamplingModel" "facts" "I") (by decide +kernel)) (fun _ h9 => h9) rfl dX1_given_35 ?_
        refine lv_ishl hx hb dX1_given_38 ?_
        refine oo_topI (y := nI (2 ^ fn)) (oo_shl1 fn (by omega)) ?_
        refine lv_icmp_ge (tgt := 95) hx hb dX1_given_39 (by decide) (fun c_39 => ?_) (fun c_39 => ?_)
        · exact absurd c_39 (nI_ge hltn (by omega))
        · refine lv_aload_n hx hb dX1_given_42 rfl (lv_at hl 0 rfl) ?_
          refine lv_iload_n hx hb dX1_given_43 rfl (lv_at hl 2 rfl) ?_
          refine oo_topI (y := nI r.toNatClampNeg) hr1 ?_
          refine lv_iload hx hb dX1_given_44 (lv_at hl 5 rfl) ?_
          refine ro_calli (va_runV (As := [.int (nI r.toNatClampNeg), .int (nI n)]) (rest := []) ⟨hx, hb, hml, hown, hts⟩ (kX1_isTrue l D cI cZ h b1 b2 b3 u d tr fn qn sd (0 : Int32) r.toNatClampNeg n (by omega) (by omega) h01) (cwV 2 hts gX1_given_X1_isTrue rfl rfl rfl ok_X1_isTrue ⟨Nat.le_of_ble_eq_true rfl, Nat.le_of_ble_eq_true rfl⟩) ⟨oo_blind, va_recv hK hP (ci := 1) (q0 := 0) rfl rfl, oo_ps hP hK [0, 1, 2, 3] rfl [0, 1] rfl⟩ rfl rfl hl.1 rfl (lv_room (Nat.le_of_ble_eq_true rfl)) dX1_given_46 ⟨Nat.le_of_ble_eq_true rfl, Nat.le_of_ble_eq_true rfl⟩) hP hS (fun H locs hP hS => ?_)
          refine lv_if_ne (tgt := 55) hx hb dX1_given_49 (by decide) (fun c_49 => ?_) (fun c_49 => ?_)
          · refine lv_lload_n hx hb dX1_given_55 rfl (lv_at hl 3 rfl) ?_
            refine lv_aload_n hx hb dX1_given_56 rfl (lv_at hl 0 rfl) ?_
            refine lv_iload hx hb dX1_given_57 (lv_at hl 5 rfl) ?_
            refine ro_calll (va_runV (As := [.int (nI n)]) (rest := [.long (kl_gof u d tr fn r.toNatClampNeg n)]) ⟨hx, hb, hml, hown, hts⟩ (kX1_weigh l D cI cZ h b1 b2 b3 u d tr fn qn sd (0 : Int32) (nI n) hfn) (cwV 1 hts gX1_given_X1_weigh rfl rfl rfl ok_X1_weigh ⟨Nat.le_of_ble_eq_true rfl, Nat.le_of_ble_eq_true rfl⟩) ⟨oo_blind, va_recv hK hP (ci := 1) (q0 := 0) rfl rfl, oo_ps hP hK [0, 1, 2, 3] rfl [0, 1] rfl⟩ rfl rfl hl.1 rfl (lv_room (Nat.le_of_ble_eq_true rfl)) dX1_given_59 ⟨Nat.le_of_ble_eq_true rfl, Nat.le_of_ble_eq_true rfl⟩) hP hS (fun H locs hP hS => ?_)
            refine lv_ladd hx hb dX1_given_62 ?_
            refine lv_lstore_n (lv' := [(3, .long ((kl_gof u d tr fn r.toNatClampNeg n) + (kvX1_weigh u d fn (nI n)))), (0, .ref h), (1, .int q), (2, .int r), (5, .long (kl_gbo u d tr fn q.toNatClampNeg r.toNatClampNeg n)), (7, .int (nI n))]) hx hb dX1_given_63 rfl hl (by decide) rfl (fun ls hl => ?_)
            refine lv_lload hx hb dX1_given_64 (lv_at hl 4 rfl) ?_
            refine lv_aload_n hx hb dX1_given_66 rfl (lv_at hl 1 rfl) ?_
            refine lv_iload_n hx hb dX1_given_67 rfl (lv_at hl 2 rfl) ?_
            refine oo_topI (y := nI q.toNatClampNeg) hq1 ?_
            refine lv_iload hx hb dX1_given_68 (lv_at hl 5 rfl) ?_
            refine ro_calli (va_runV (As := [.int (nI q.toNatClampNeg), .int (nI n)]) (rest := [.long (kl_gbo u d tr fn q.toNatClampNeg r.toNatClampNeg n)]) ⟨hx, hb, hml, hown, hts⟩ (kX1_isTrue l D cI cZ h b1 b2 b3 u d tr fn qn sd (0 : Int32) q.toNatClampNeg n (by omega) (by omega) h01) (cwV 2 hts gX1_given_X1_isTrue rfl rfl rfl ok_X1_isTrue ⟨Nat.le_of_ble_eq_true rfl, Nat.le_of_ble_eq_true rfl⟩) ⟨oo_blind, va_recv hK hP (ci := 1) (q0 := 0) rfl rfl, oo_ps hP hK [0, 1, 2, 3] rfl [0, 1] rfl⟩ rfl rfl hl.1 rfl (lv_room (Nat.le_of_ble_eq_true rfl)) dX1_given_70 ⟨Nat.le_of_ble_eq_true rfl, Nat.le_of_ble_eq_true rfl⟩) hP hS (fun H locs hP hS => ?_)
            refine lv_if_eq (tgt := 85) hx hb dX1_given_73 (by decide) (fun c_73 => ?_) (fun c_73 => ?_)
            · refine lv_lconst (v := (0 : Int64)) hx hb dX1_given_85 (by decide) ?_
              refine lv_ladd hx hb dX1_given_86 ?_
              refine lv_lstore (lv' := [(5, .long ((kl_gbo u d tr fn q.toNatClampNeg r.toNatClampNeg n) + (0 : Int64))), (3, .long ((kl_gof u d tr fn r.toNatClampNeg n) + (kvX1_weigh u d fn (nI n)))), (0, .ref h), (1, .int q), (2, .int r), (7, .int (nI n))]) hx hb dX1_given_87 hl (by decide) rfl (fun ls hl => ?_)
              refine lv_iinc (v := nI (n + 1)) (lv' := [(7, .int (nI (n + 1))), (5, .long ((kl_gbo u d tr fn q.toNatClampNeg r.toNatClampNeg n) + (0 : Int64))), (3, .long ((kl_gof u d tr fn r.toNatClampNeg n) + (kvX1_weigh u d fn (nI n)))), (0, .ref h), (1, .int q), (2, .int r)]) hx hb dX1_given_89 hl (k := 5) rfl (oo_inc n 1) (by decide) rfl (fun ls hl => ?_)
              refine lv_goto (tgt := 31) hx hb dX1_given_92 (by decide) ?_
              have hl : lv_has ls 8 [(0, .ref h), (1, .int q), (2, .int r), (3, .long ((kl_gof u d tr fn r.toNatClampNeg n) + (kvX1_weigh u d fn (nI n)))), (5, .long ((kl_gbo u d tr fn q.toNatClampNeg r.toNatClampNeg n) + (0 : Int64))), (7, .int (nI (n + 1)))] := lv_sub hl [3, 4, 5, 2, 1, 0] rfl
              have hl := Eq.mp (congrArg (fun z9 => lv_has ls 8 [(0, .ref h), (1, .int q), (2, .int r), (3, .long z9), (5, .long ((kl_gbo u d tr fn q.toNatClampNeg r.toNatClampNeg n) + (0 : Int64))), (7, .int (nI (n + 1)))]) (show (kl_gof u d tr fn r.toNatClampNeg n) + (kvX1_weigh u d fn (nI n)) = kl_gof u d tr fn r.toNatClampNeg (n + 1) from (by simp only [kl_gof]; rw [if_neg c_49]))) hl
              have hl := Eq.mp (congrArg (fun z9 => lv_has ls 8 [(0, .ref h), (1, .int q), (2, .int r), (3, .long (kl_gof u d tr fn r.toNatClampNeg (n + 1))), (5, .long z9), (7, .int (nI (n + 1)))]) (show (kl_gbo u d tr fn q.toNatClampNeg r.toNatClampNeg n) + (0 : Int64) = kl_gbo u d tr fn q.toNatClampNeg r.toNatClampNeg (n + 1) from (by simp only [kl_gbo]; rw [if_neg c_49, if_pos c_73]))) hl
              exact ihn _ _ _ ⟨hP, hD, hS, hl⟩
            · refine lv_aload_n hx hb dX1_given_76 rfl (lv_at hl 1 rfl) ?_
              refine lv_iload hx hb dX1_given_77 (lv_at hl 5 rfl) ?_
              refine ro_calll (va_runV (As := [.int (nI n)]) (rest := [.long (kl_gbo u d tr fn q.toNatClampNeg r.toNatClampNeg n)]) ⟨hx, hb, hml, hown, hts⟩ (kX1_weigh l D cI cZ h b1 b2 b3 u d tr fn qn sd (0 : Int32) (nI n) hfn) (cwV 1 hts gX1_given_X1_weigh rfl rfl rfl ok_X1_weigh ⟨Nat.le_of_ble_eq_true rfl, Nat.le_of_ble_eq_true rfl⟩) ⟨oo_blind, va_recv hK hP (ci := 1) (q0 := 0) rfl rfl, oo_ps hP hK [0, 1, 2, 3] rfl [0, 1] rfl⟩ rfl rfl hl.1 rfl (lv_room (Nat.le_of_ble_eq_true rfl)) dX1_given_79 ⟨Nat.le_of_ble_eq_true rfl, Nat.le_of_ble_eq_true rfl⟩) hP hS (fun H locs hP hS => ?_)
              refine lv_goto (tgt := 86) hx hb dX1_given_82 (by decide) ?_
              refine lv_ladd hx hb dX1_given_86 ?_
              refine lv_lstore (lv' := [(5, .long ((kl_gbo u d tr fn q.toNatClampNeg r.toNatClampNeg n) + (kvX1_weigh u d fn (nI n)))), (3, .long ((kl_gof u d tr fn r.toNatClampNeg n) + (kvX1_weigh u d fn (nI n)))), (0, .ref h), (1, .int q), (2, .int r), (7, .int (nI n))]) hx hb dX1_given_87 hl (by decide) rfl (fun ls hl => ?_)
              refine lv_iinc (v := nI (n + 1)) (lv' := [(7, .int (nI (n + 1))), (5, .long ((kl_gbo u d tr fn q.toNatClampNeg r.toNatClampNeg n) + (kvX1_weigh u d fn (nI n)))), (3, .long ((kl_gof u d tr fn r.toNatClampNeg n) + (kvX1_weigh u d fn (nI n)))), (0, .ref h), (1, .int q), (2, .int r)]) hx hb dX1_given_89 hl (k := 5) rfl (oo_inc n 1) (by decide) rfl (fun ls hl => ?_)
              refine lv_goto (tgt := 31) hx hb dX1_given_92 (by decide) ?_
              have hl : lv_has ls 8 [(0, .ref h), (1, .int q), (2, .int r), (3, .long ((kl_gof u d tr fn r.toNatClampNeg n) + (kvX1_weigh u d fn (nI n)))), (5, .long ((kl_gbo u d tr fn q.toNatClampNeg r.toNatClampNeg n) + (kvX1_weigh u d fn (nI n)))), (7, .int (nI (n + 1)))] := lv_sub hl [3, 4, 5, 2, 1, 0] rfl
              have hl := Eq.mp (congrArg (fun z9 => lv_has ls 8 [(0, .ref h), (1, .int q), (2, .int r), (3, .long z9), (5, .long ((kl_gbo u d tr fn q.toNatClampNeg r.toNatClampNeg n) + (kvX1_weigh u d fn (nI n)))), (7, .int (nI (n + 1)))]) (show (kl_gof u d tr fn r.toNatClampNeg n) + (kvX1_weigh u d fn (nI n)) = kl_gof u d tr fn r.toNatClampNeg (n + 1) from (by simp only [kl_gof]; rw [if_neg c_49]))) hl
              have hl := Eq.mp (congrArg (fun z9 => lv_has ls 8 [(0, .ref h), (1, .int q), (2, .int r), (3, .long (kl_gof u d tr fn r.toNatClampNeg (n + 1))), (5, .long z9), (7, .int (nI (n + 1)))]) (show (kl_gbo u d tr fn q.toNatClampNeg r.toNatClampNeg n) + (kvX1_weigh u d fn (nI n)) = kl_gbo u d tr fn q.toNatClampNeg r.toNatClampNeg (n + 1) from (by simp only [kl_gbo]; rw [if_neg c_49, if_neg c_73]))) hl
              exact ihn _ _ _ ⟨hP, hD, hS, hl⟩
          · refine lv_goto (tgt := 89) hx hb dX1_given_52 (by decide) ?_
            refine lv_iinc (v := nI (n + 1)) (lv' := [(7, .int (nI (n + 1))), (0, .ref h), (1, .int q), (2, .int r), (3, .long (kl_gof u d tr fn r.toNatClampNeg n)), (5, .long (kl_gbo u d tr fn q.toNatClampNeg r.toNatClampNeg n))]) hx hb dX1_given_89 hl (k := 5) rfl (oo_inc n 1) (by decide) rfl (fun ls hl => ?_)
            refine lv_goto (tgt := 31) hx hb dX1_given_92 (by decide) ?_
            have hl : lv_has ls 8 [(0, .ref h), (1, .int q), (2, .int r), (3, .long (kl_gof u d tr fn r.toNatClampNeg n)), (5, .long (kl_gbo u d tr fn q.toNatClampNeg r.toNatClampNeg n)), (7, .int (nI (n + 1)))] := lv_sub hl [1, 2, 3, 4, 5, 0] rfl
            have hl := Eq.mp (congrArg (fun z9 => lv_has ls 8 [(0, .ref h), (1, .int q), (2, .int r), (3, .long z9), (5, .long (kl_gbo u d tr fn q.toNatClampNeg r.toNatClampNeg n)), (7, .int (nI (n + 1)))]) (show kl_gof u d tr fn r.toNatClampNeg n = kl_gof u d tr fn r.toNatClampNeg (n + 1) from (by simp only [kl_gof]; rw [if_pos c_49]))) hl
            have hl := Eq.mp (congrArg (fun z9 => lv_has ls 8 [(0, .ref h), (1, .int q), (2, .int r), (3, .long (kl_gof u d tr fn r.toNatClampNeg (n + 1))), (5, .long z9), (7, .int (nI (n + 1)))]) (show kl_gbo u d tr fn q.toNatClampNeg r.toNatClampNeg n = kl_gbo u d tr fn q.toNatClampNeg r.toNatClampNeg (n + 1) from (by simp only [kl_gbo]; rw [if_pos c_49]))) hl
            exact ihn _ _ _ ⟨hP, hD, hS, hl⟩
    · refine lv_lconst (v := (0 : Int64)) hx hb dX1_given_21 (by decide) ?_
      have hP := Eq.mp (congrArg (fun z9 => va_P D vwCl (mW cI cZ h b1 b2 b3 u d tr (nI fn) (nI qn) sd z9) H) (show (0 : Int32) = kvX1_given_th u d tr fn qn q r from (by unfold kvX1_given_th; rw [if_neg c_10, if_pos c_18]))) hP
      have hP : va_P D vwCl (mW cI cZ h b1 b2 b3 u d tr (nI fn) (nI qn) sd (kvX1_given_th u d tr fn qn q r)) H := hP
      have hD : va_D _ (mW cI cZ h b1 b2 b3 u d tr (nI fn) (nI qn) sd (kvX1_given_th u d tr fn qn q r)) := oo_Dre hD (oo_fc (oo_fc (oo_fc (oo_fc rfl))))
      exact mu_retl hx hb hr hlocks hP hD hS (by unfold kvX1_given; rw [if_neg c_10, if_pos c_18]) dX1_given_22
