theorem oo_in {i : Int32} {n : Nat} (hn : n < 2 ^ 31) (h1 : ¬ i < 0) (h2 : ¬ nI n ≤ i) : vp_in i n := by
  obtain ⟨j, h3, rfl, -⟩ := pk_mu h1 h2 hn
  exact vp_in_nI h3 hn
theorem ok_X0_put : yX0_put.cls ≠ "java/lang/invoke/MethodHandle" ∧ yX0_put.cls ≠ "java/lang/invoke/VarHandle" ∧ (parseMethodDescriptor yX0_put.desc).map (fun d => d.parameters.length) = some 3 := by decide +kernel
def kvX0_put_c0 (n : Nat) (f : Nat → Int64) (i : Int32) (v : Int64) : Nat → Int64 := if i < 0 then f else (if (nI n) ≤ i then f else (vp_updL f i.toNatClampNeg v))
set_option maxHeartbeats 4000000 in
set_option maxRecDepth 100000 in
theorem kX0_put (l : Launch) (D : va_G) (cJ : ClassId) (a n : Nat) (f : Nat → Int64) (i : Int32) (v : Int64) (hn : n < 2 ^ 31) : MuV l yX0_put wsX0_put ({ frames := 0, cells := 0, slots := 0, locals := 0 } : Room) [.ref a, .int i, .long v] D ([(a, .inl (cJ, n, .inr (.inl f)))]) [(cJ, .long)] ([(a, .inl (cJ, n, .inr (.inl (kvX0_put_c0 n f i v))))]) := by
  intro sz
  refine oo_head (C := RX0) (cc := cX0_put) (maxL := 4) (ret := none) (by decide) rfl rfl (Nat.le_of_ble_eq_true rfl) ?_
  intro p e s m below meth c hx hb hr hlocks hml hown hnm hts hpre ls hl
  have hl : lv_has ls 4 [(0, .ref a), (1, .int i), (2, .long v)] := hl
  obtain ⟨rfl, hP, hK, hD0⟩ := hpre
  have hD := hD0.self (sz := s.heap.size)
  have hA := oo_A ([(a, .inl (cJ, n, .inr (.inl f)))]) s
  have hS : va_S (va_A ([(a, .inl (cJ, n, .inr (.inl f)))]) s.heap.size) s.heap s.heap [] := va_S.rf
  refine lv_aload_n hx hb dX0_put_0 rfl (lv_at hl 0 rfl) ?_
  refine lv_ifnull hx hb dX0_put_1 ?_
  refine lv_iload_n hx hb dX0_put_4 rfl (lv_at hl 1 rfl) ?_
  refine lv_if_lt (tgt := 18) hx hb dX0_put_5 (by decide) (fun c_5 => ?_) (fun c_5 => ?_)
  · have hP := Eq.mp (congrArg (fun z9 => va_P D vwCl ([(a, .inl (cJ, n, .inr (.inl z9)))]) s.heap) (show f = kvX0_put_c0 n f i v from (by unfold kvX0_put_c0; rw [if_pos c_5]))) hP
    have hP : va_P D vwCl ([(a, .inl (cJ, n, .inr (.inl (kvX0_put_c0 n f i v))))]) s.heap := hP
    have hD : va_D _ ([(a, .inl (cJ, n, .inr (.inl (kvX0_put_c0 n f i v))))]) := oo_Dre hD rfl
    exact mu_retv hx hb hr hlocks hP hD hS dX0_put_18
  · refine lv_iload_n hx hb dX0_put_8 rfl (lv_at hl 1 rfl) ?_
    refine lv_aload_n hx hb dX0_put_9 rfl (lv_at hl 0 rfl) ?_
    refine va_alen (v := nI n) hx hb hK hP 0 0 rfl rfl rfl dX0_put_10 ?_
    refine lv_icmp_ge (tgt := 18) hx hb dX0_put_11 (by decide) (fun c_11 => ?_) (fun c_11 => ?_)
    · have hP := Eq.mp (congrArg (fun z9 => va_P D vwCl ([(a, .inl (cJ, n, .inr (.inl z9)))]) s.heap) (show f = kvX0_put_c0 n f i v from (by unfold kvX0_put_c0; rw [if_neg c_5, if_pos c_11]))) hP
      have hP : va_P D vwCl ([(a, .inl (cJ, n, .inr (.inl (kvX0_put_c0 n f i v))))]) s.heap := hP
      have hD : va_D _ ([(a, .inl (cJ, n, .inr (.inl (kvX0_put_c0 n f i v))))]) := oo_Dre hD rfl
      exact mu_retv hx hb hr hlocks hP hD hS dX0_put_18
    · refine lv_aload_n hx hb dX0_put_14 rfl (lv_at hl 0 rfl) ?_
      refine lv_iload_n hx hb dX0_put_15 rfl (lv_at hl 1 rfl) ?_
      refine lv_lload_n hx hb dX0_put_16 rfl (lv_at hl 2 rfl) ?_
      refine va_last hx hb hK hP hD hS 0 0 rfl rfl (oo_in hn c_5 c_11) dX0_put_17 (fun H locs hP hD hS => ?_)
      have hP : va_P D vwCl ([(a, .inl (cJ, n, .inr (.inl (vp_updL f i.toNatClampNeg v))))]) H := hP
      have hD : va_D _ ([(a, .inl (cJ, n, .inr (.inl (vp_updL f i.toNatClampNeg v))))]) := hD
      have hP := Eq.mp (congrArg (fun z9 => va_P D vwCl ([(a, .inl (cJ, n, .inr (.inl z9)))]) H) (show vp_updL f i.toNatClampNeg v = kvX0_put_c0 n f i v from (by unfold kvX0_put_c0; rw [if_neg c_5, if_neg c_11]))) hP
      have hP : va_P D vwCl ([(a, .inl (cJ, n, .inr (.inl (kvX0_put_c0 n f i v))))]) H := hP
      have hD : va_D _ ([(a, .inl (cJ, n, .inr (.inl (kvX0_put_c0 n f i v))))]) := oo_Dre hD rfl
      exact mu_retv hx hb hr hlocks hP hD hS dX0_put_18
theorem ok_X0_at : yX0_at.cls ≠ "java/lang/invoke/MethodHandle" ∧ yX0_at.cls ≠ "java/lang/invoke/VarHandle" ∧ (parseMethodDescriptor yX0_at.desc).map (fun d => d.parameters.length) = some 2 := by decide +kernel
def kvX0_at (n : Nat) (f : Nat → Int64) (i : Int32) : Int64 := if i < 0 then (0 : Int64) else (if (nI n) ≤ i then (0 : Int64) else (f i.toNatClampNeg))
set_option maxHeartbeats 4000000 in
set_option maxRecDepth 100000 in
theorem kX0_at (l : Launch) (D : va_G) (cJ : ClassId) (a n : Nat) (f : Nat → Int64) (i : Int32) (hn : n < 2 ^ 31) : RoL l yX0_at wsX0_at ({ frames := 0, cells := 0, slots := 0, locals := 0 } : Room) [.ref a, .int i] D ([(a, .inl (cJ, n, .inr (.inl f)))]) [(cJ, .long)] (kvX0_at n f i) := by
  refine oo_head (C := RX0) (cc := cX0_at) (maxL := 2) (ret := (some .long)) (by decide) rfl rfl (Nat.le_of_ble_eq_true rfl) ?_
  intro p e s m below meth c hx hb hr hlocks hml hown hnm hts hpre ls hl
  have hl : lv_has ls 2 [(0, .ref a), (1, .int i)] := hl
  obtain ⟨hP, hK⟩ := hpre
  have hS : va_S oo_N s.heap s.heap [] := va_S.rf
  refine lv_aload_n hx hb dX0_at_0 rfl (lv_at hl 0 rfl) ?_
  refine lv_ifnull hx hb dX0_at_1 ?_
  refine lv_iload_n hx hb dX0_at_4 rfl (lv_at hl 1 rfl) ?_
  refine lv_if_lt (tgt := 20) hx hb dX0_at_5 (by decide) (fun c_5 => ?_) (fun c_5 => ?_)
  · refine lv_lconst (v := (0 : Int64)) hx hb dX0_at_20 (by decide) ?_
    exact ro_retl hx hb hr hlocks hS (by unfold kvX0_at; rw [if_pos c_5]) dX0_at_21
  · refine lv_iload_n hx hb dX0_at_8 rfl (lv_at hl 1 rfl) ?_
    refine lv_aload_n hx hb dX0_at_9 rfl (lv_at hl 0 rfl) ?_
    refine va_alen (v := nI n) hx hb hK hP 0 0 rfl rfl rfl dX0_at_10 ?_
    refine lv_icmp_ge (tgt := 20) hx hb dX0_at_11 (by decide) (fun c_11 => ?_) (fun c_11 => ?_)
    · refine lv_lconst (v := (0 : Int64)) hx hb dX0_at_20 (by decide) ?_
      exact ro_retl hx hb hr hlocks hS (by unfold kvX0_at; rw [if_neg c_5, if_pos c_11]) dX0_at_21
    · refine lv_aload_n hx hb dX0_at_14 rfl (lv_at hl 0 rfl) ?_
      refine lv_iload_n hx hb dX0_at_15 rfl (lv_at hl 1 rfl) ?_
      refine va_lald hx hb hK hP 0 0 rfl rfl (oo_in hn c_5 c_11) dX0_at_16 ?_
      refine lv_goto (tgt := 21) hx hb dX0_at_17 (by decide) ?_
      exact ro_retl hx hb hr hlocks hS (by unfold kvX0_at; rw [if_neg c_5, if_neg c_11]) dX0_at_21
theorem ok_X0_isBitOn : yX0_isBitOn.cls ≠ "java/lang/invoke/MethodHandle" ∧ yX0_isBitOn.cls ≠ "java/lang/invoke/VarHandle" ∧ (parseMethodDescriptor yX0_isBitOn.desc).map (fun d => d.parameters.length) = some 2 := by decide +kernel
def kvX0_isBitOn (b : Int64) (i : Int32) : Int32 := if (lg_cmp (((b.toUInt64 >>> (i.toInt64.toUInt64 &&& Int64.toUInt64 63)).toInt64) &&& (1 : Int64)) (0 : Int64)) = 0 then (0 : Int32) else (1 : Int32)
set_option maxHeartbeats 4000000 in
set_option maxRecDepth 100000 in
theorem kX0_isBitOn (l : Launch) (D : va_G) (b : Int64) (i : Int32) : RoI l yX0_isBitOn wsX0_isBitOn ({ frames := 0, cells := 0, slots := 0, locals := 0 } : Room) [.long b, .int i] D ([]) [] (kvX0_isBitOn b i) := by
  refine oo_head (C := RX0) (cc := cX0_isBitOn) (maxL := 3) (ret := (some .boolean)) (by decide) rfl rfl (Nat.le_of_ble_eq_true rfl) ?_
  intro p e s m below meth c hx hb hr hlocks hml hown hnm hts hpre ls hl
  have hl : lv_has ls 3 [(0, .long b), (2, .int i)] := hl
  obtain ⟨hP, hK⟩ := hpre
  have hS : va_S oo_N s.heap s.heap [] := va_S.rf
  refine lv_lload_n hx hb dX0_isBitOn_0 rfl (lv_at hl 0 rfl) ?_
  refine lv_iload_n hx hb dX0_isBitOn_1 rfl (lv_at hl 1 rfl) ?_
  refine lv_lushr hx hb dX0_isBitOn_2 rfl ?_
  refine lv_lconst (v := (1 : Int64)) hx hb dX0_isBitOn_3 (by decide) ?_
  refine lv_land hx hb dX0_isBitOn_4 ?_
  refine lv_lconst (v := (0 : Int64)) hx hb dX0_isBitOn_5 (by decide) ?_
  refine W.lcmp hx hb dX0_isBitOn_6 ?_
  refine lv_if_eq (tgt := 14) hx hb dX0_isBitOn_7 (by decide) (fun c_7 => ?_) (fun c_7 => ?_)
  · refine lv_iconst (v := (0 : Int32)) hx hb dX0_isBitOn_14 (by decide) ?_
    exact ro_retz hx hb hr hlocks hS rfl (by unfold kvX0_isBitOn; rw [if_pos c_7]) dX0_isBitOn_15
  · refine lv_iconst (v := (1 : Int32)) hx hb dX0_isBitOn_10 (by decide) ?_
    refine lv_goto (tgt := 15) hx hb dX0_isBitOn_11 (by decide) ?_
    exact ro_retz hx hb hr hlocks hS rfl (by unfold kvX0_isBitOn; rw [if_neg c_7]) dX0_isBitOn_15
theorem ok_X0_areOdds : yX0_areOdds.cls ≠ "java/lang/invoke/MethodHandle" ∧ yX0_areOdds.cls ≠ "java/lang/invoke/VarHandle" ∧ (parseMethodDescriptor yX0_areOdds.desc).map (fun d => d.parameters.length) = some 2 := by decide +kernel
def kvX0_areOdds (up : Int32) (dn : Int32) : Int32 := if dn < (1 : Int32) then (0 : Int32) else (if (nI 8) < dn then (0 : Int32) else (if up < 0 then (0 : Int32) else (if dn < up then (0 : Int32) else (1 : Int32))))
set_option maxHeartbeats 4000000 in
set_option maxRecDepth 100000 in
theorem kX0_areOdds (l : Launch) (D : va_G) (up : Int32) (dn : Int32) : RoI l yX0_areOdds wsX0_areOdds ({ frames := 0, cells := 0, slots := 0, locals := 0 } : Room) [.int up, .int dn] D ([]) [] (kvX0_areOdds up dn) := by
  refine oo_head (C := RX0) (cc := cX0_areOdds) (maxL := 2) (ret := (some .boolean)) (by decide) rfl rfl (Nat.le_of_ble_eq_true rfl) ?_
  intro p e s m below meth c hx hb hr hlocks hml hown hnm hts hpre ls hl
  have hl : lv_has ls 2 [(0, .int up), (1, .int dn)] := hl
  obtain ⟨hP, hK⟩ := hpre
  have hS : va_S oo_N s.heap s.heap [] := va_S.rf
  refine lv_iload_n hx hb dX0_areOdds_0 rfl (lv_at hl 1 rfl) ?_
  refine lv_iconst (v := (1 : Int32)) hx hb dX0_areOdds_1 (by decide) ?_
  refine lv_icmp_lt (tgt := 24) hx hb dX0_areOdds_2 (by decide) (fun c_2 => ?_) (fun c_2 => ?_)
  · refine lv_iconst (v := (0 : Int32)) hx hb dX0_areOdds_24 (by decide) ?_
    exact ro_retz hx hb hr hlocks hS rfl (by unfold kvX0_areOdds; rw [if_pos c_2]) dX0_areOdds_25
  · refine lv_iload_n hx hb dX0_areOdds_5 rfl (lv_at hl 1 rfl) ?_
    refine lv_bipush (v := nI 8) hx hb dX0_areOdds_6 (by decide) ?_
    refine lv_icmp_gt (tgt := 24) hx hb dX0_areOdds_8 (by decide) (fun c_8 => ?_) (fun c_8 => ?_)
    · refine lv_iconst (v := (0 : Int32)) hx hb dX0_areOdds_24 (by decide) ?_
      exact ro_retz hx hb hr hlocks hS rfl (by unfold kvX0_areOdds; rw [if_neg c_2, if_pos c_8]) dX0_areOdds_25
    · refine lv_iload_n hx hb dX0_areOdds_11 rfl (lv_at hl 0 rfl) ?_
      refine lv_if_lt (tgt := 24) hx hb dX0_areOdds_12 (by decide) (fun c_12 => ?_) (fun c_12 => ?_)
      · refine lv_iconst (v := (0 : Int32)) hx hb dX0_areOdds_24 (by decide) ?_
        exact ro_retz hx hb hr hlocks hS rfl (by unfold kvX0_areOdds; rw [if_neg c_2, if_neg c_8, if_pos c_12]) dX0_areOdds_25
      · refine lv_iload_n hx hb dX0_areOdds_15 rfl (lv_at hl 0 rfl) ?_
        refine lv_iload_n hx hb dX0_areOdds_16 rfl (lv_at hl 1 rfl) ?_
        refine lv_icmp_gt (tgt := 24) hx hb dX0_areOdds_17 (by decide) (fun c_17 => ?_) (fun c_17 => ?_)
        · refine lv_iconst (v := (0 : Int32)) hx hb dX0_areOdds_24 (by decide) ?_
          exact ro_retz hx hb hr hlocks hS rfl (by unfold kvX0_areOdds; rw [if_neg c_2, if_neg c_8, if_neg c_12, if_pos c_17]) dX0_areOdds_25
        · refine lv_iconst (v := (1 : Int32)) hx hb dX0_areOdds_20 (by decide) ?_
          refine lv_goto (tgt := 25) hx hb dX0_areOdds_21 (by decide) ?_
          exact ro_retz hx hb hr hlocks hS rfl (by unfold kvX0_areOdds; rw [if_neg c_2, if_neg c_8, if_neg c_12, if_neg c_17]) dX0_areOdds_25
theorem ok_X0_isPart : yX0_isPart.cls ≠ "java/lang/invoke/MethodHandle" ∧ yX0_isPart.cls ≠ "java/lang/invoke/VarHandle" ∧ (parseMethodDescriptor yX0_isPart.desc).map (fun d => d.parameters.length) = some 1 := by decide +kernel
def kvX0_isPart (pt : Int32) : Int32 := if pt = 0 then (1 : Int32) else (if pt = (1 : Int32) then (1 : Int32) else (0 : Int32))
set_option maxHeartbeats 4000000 in
set_option maxRecDepth 100000 in
theorem kX0_isPart (l : Launch) (D : va_G) (pt : Int32) : RoI l yX0_isPart wsX0_isPart ({ frames := 0, cells := 0, slots := 0, locals := 0 } : Room) [.int pt] D ([]) [] (kvX0_isPart pt) := by
  refine oo_head (C := RX0) (cc := cX0_isPart) (maxL := 1) (ret := (some .boolean)) (by decide) rfl rfl (Nat.le_of_ble_eq_true rfl) ?_
  intro p e s m below meth c hx hb hr hlocks hml hown hnm hts hpre ls hl
  have hl : lv_has ls 1 [(0, .int pt)] := hl
  obtain ⟨hP, hK⟩ := hpre
  have hS : va_S oo_N s.heap s.heap [] := va_S.rf
  refine lv_iload_n hx hb dX0_isPart_0 rfl (lv_at hl 0 rfl) ?_
  refine lv_if_eq (tgt := 9) hx hb dX0_isPart_1 (by decide) (fun c_1 => ?_) (fun c_1 => ?_)
  · refine lv_iconst (v := (1 : Int32)) hx hb dX0_isPart_9 (by decide) ?_
    refine lv_goto (tgt := 14) hx hb dX0_isPart_10 (by decide) ?_
    exact ro_retz hx hb hr hlocks hS rfl (by unfold kvX0_isPart; rw [if_pos c_1]) dX0_isPart_14
  · refine lv_iload_n hx hb dX0_isPart_4 rfl (lv_at hl 0 rfl) ?_
    refine lv_iconst (v := (1 : Int32)) hx hb dX0_isPart_5 (by decide) ?_
    refine lv_icmp_ne (tgt := 13) hx hb dX0_isPart_6 (by decide) (fun c_6 => ?_) (fun c_6 => ?_)
    · refine lv_iconst (v := (0 : Int32)) hx hb dX0_isPart_13 (by decide) ?_
      exact ro_retz hx hb hr hlocks hS rfl (by unfold kvX0_isPart; rw [if_neg c_1, if_neg c_6]) dX0_isPart_14
    · refine lv_iconst (v := (1 : Int32)) hx hb dX0_isPart_9 (by decide) ?_
      refine lv_goto (tgt := 14) hx hb dX0_isPart_10 (by decide) ?_
      exact ro_retz hx hb hr hlocks hS rfl (by unfold kvX0_isPart; rw [if_neg c_1, if_pos c_6]) dX0_isPart_14
theorem ok_X0_isFact : yX0_isFact.cls = RX0 ∧ yX0_isFact.cls ≠ "java/lang/invoke/MethodHandle" ∧ yX0_isFact.cls ≠ "java/lang/invoke/VarHandle" ∧ (parseMethodDescriptor yX0_isFact.desc).map (fun d => d.parameters.length) = some 1 := by decide +kernel
def kvX0_isFact (fn : Nat) (k : Int32) : Int32 := if k < 0 then (0 : Int32) else (if (nI fn) ≤ k then (0 : Int32) else (1 : Int32))
set_option maxHeartbeats 4000000 in
set_option maxRecDepth 100000 in
theorem kX0_isFact (l : Launch) (D : va_G) (cJ : ClassId) (h a1 a2 a3 a4 a5 : Nat) (u d lw uw an : Nat → Int64) (fn qn : Nat) (sd : Int64) (k : Int32) : RoI l yX0_isFact wsX0_isFact ({ frames := 0, cells := 0, slots := 0, locals := 0 } : Room) [.ref h, .int k] D (xW cJ h a1 a2 a3 a4 a5 u d lw uw an (nI fn) (nI qn) sd) [(cJ, .long)] (kvX0_isFact fn k) := by
  refine oo_head (C := RX0) (cc := cX0_isFact) (maxL := 2) (ret := (some .boolean)) (by decide) rfl rfl (Nat.le_of_ble_eq_true rfl) ?_
  intro p e s m below meth c hx hb hr hlocks hml hown hnm hts hpre ls hl
  have hl : lv_has ls 2 [(0, .ref h), (1, .int k)] := hl
  obtain ⟨hP, hK⟩ := hpre
  have hS : va_S oo_N s.heap s.heap [] := va_S.rf
  have hin : ∀ w ∈ wsX00, w ∈ wsX0_isFact := fun w h => List.mem_cons_of_mem _ (List.mem_append_right _ h)
  refine lv_iload_n hx hb dX0_isFact_0 rfl (lv_at hl 1 rfl) ?_
  refine lv_if_lt (tgt := 16) hx hb dX0_isFact_1 (by decide) (fun c_1 => ?_) (fun c_1 => ?_)
  · refine lv_iconst (v := (0 : Int32)) hx hb dX0_isFact_16 (by decide) ?_
    exact ro_retz hx hb hr hlocks hS rfl (by unfold kvX0_isFact; rw [if_pos c_1]) dX0_isFact_17
  · refine lv_iload_n hx hb dX0_isFact_4 rfl (lv_at hl 1 rfl) ?_
    refine lv_aload_n hx hb dX0_isFact_5 rfl (lv_at hl 0 rfl) ?_
    refine va_get (D := D) (ci := 0) (v := .int (nI fn)) (C := RX0) (T := TX0) (N := 8) hx hb hts hin hown hK hP 0 rfl rfl 5 (by decide) (hts (.fieldLink RX0 25 "OddsSampling" "factCount" "I") (by decide +kernel)) (fun _ h9 => h9) rfl dX0_isFact_6 ?_
    refine lv_icmp_ge (tgt := 16) hx hb dX0_isFact_9 (by decide) (fun c_9 => ?_) (fun c_9 => ?_)
    · refine lv_iconst (v := (0 : Int32)) hx hb dX0_isFact_16 (by decide) ?_
      exact ro_retz hx hb hr hlocks hS rfl (by unfold kvX0_isFact; rw [if_neg c_1, if_pos c_9]) dX0_isFact_17
    · refine lv_iconst (v := (1 : Int32)) hx hb dX0_isFact_12 (by decide) ?_
      refine lv_goto (tgt := 17) hx hb dX0_isFact_13 (by decide) ?_
      exact ro_retz hx hb hr hlocks hS rfl (by unfold kvX0_isFact; rw [if_neg c_1, if_neg c_9]) dX0_isFact_17
theorem ok_X0_isQuestion : yX0_isQuestion.cls = RX0 ∧ yX0_isQuestion.cls ≠ "java/lang/invoke/MethodHandle" ∧ yX0_isQuestion.cls ≠ "java/lang/invoke/VarHandle" ∧ (parseMethodDescriptor yX0_isQuestion.desc).map (fun d => d.parameters.length) = some 1 := by decide +kernel
def kvX0_isQuestion (qn : Nat) (q : Int32) : Int32 := if q < 0 then (0 : Int32) else (if (nI qn) ≤ q then (0 : Int32) else (1 : Int32))
set_option maxHeartbeats 4000000 in
set_option maxRecDepth 100000 in
theorem kX0_isQuestion (l : Launch) (D : va_G) (cJ : ClassId) (h a1 a2 a3 a4 a5 : Nat) (u d lw uw an : Nat → Int64) (fn qn : Nat) (sd : Int64) (q : Int32) : RoI l yX0_isQuestion wsX0_isQuestion ({ frames := 0, cells := 0, slots := 0, locals := 0 } : Room) [.ref h, .int q] D (xW cJ h a1 a2 a3 a4 a5 u d lw uw an (nI fn) (nI qn) sd) [(cJ, .long)] (kvX0_isQuestion qn q) := by
  refine oo_head (C := RX0) (cc := cX0_isQuestion) (maxL := 2) (ret := (some .boolean)) (by decide) rfl rfl (Nat.le_of_ble_eq_true rfl) ?_
  intro p e s m below meth c hx hb hr hlocks hml hown hnm hts hpre ls hl
  have hl : lv_has ls 2 [(0, .ref h), (1, .int q)] := hl
  obtain ⟨hP, hK⟩ := hpre
  have hS : va_S oo_N s.heap s.heap [] := va_S.rf
  have hin : ∀ w ∈ wsX00, w ∈ wsX0_isQuestion := fun w h => List.mem_cons_of_mem _ (List.mem_append_right _ h)
  refine lv_iload_n hx hb dX0_isQuestion_0 rfl (lv_at hl 1 rfl) ?_
  refine lv_if_lt (tgt := 16) hx hb dX0_isQuestion_1 (by decide) (fun c_1 => ?_) (fun c_1 => ?_)
  · refine lv_iconst (v := (0 : Int32)) hx hb dX0_isQuestion_16 (by decide) ?_
    exact ro_retz hx hb hr hlocks hS rfl (by unfold kvX0_isQuestion; rw [if_pos c_1]) dX0_isQuestion_17
  · refine lv_iload_n hx hb dX0_isQuestion_4 rfl (lv_at hl 1 rfl) ?_
    refine lv_aload_n hx hb dX0_isQuestion_5 rfl (lv_at hl 0 rfl) ?_
    refine va_get (D := D) (ci := 0) (v := .int (nI qn)) (C := RX0) (T := TX0) (N := 8) hx hb hts hin hown hK hP 0 rfl rfl 6 (by decide) (hts (.fieldLink RX0 29 "OddsSampling" "questionCount" "I") (by decide +kernel)) (fun _ h9 => h9) rfl dX0_isQuestion_6 ?_
    refine lv_icmp_ge (tgt := 16) hx hb dX0_isQuestion_9 (by decide) (fun c_9 => ?_) (fun c_9 => ?_)
    · refine lv_iconst (v := (0 : Int32)) hx hb dX0_isQuestion_16 (by decide) ?_
      exact ro_retz hx hb hr hlocks hS rfl (by unfold kvX0_isQuestion; rw [if_neg c_1, if_pos c_9]) dX0_isQuestion_17
    · refine lv_iconst (v := (1 : Int32)) hx hb dX0_isQuestion_12 (by decide) ?_
      refine lv_goto (tgt := 17) hx hb dX0_isQuestion_13 (by decide) ?_
      exact ro_retz hx hb hr hlocks hS rfl (by unfold kvX0_isQuestion; rw [if_neg c_1, if_neg c_9]) dX0_isQuestion_17
theorem ok_X0_isFull : yX0_isFull.cls = RX0 ∧ yX0_isFull.cls ≠ "java/lang/invoke/MethodHandle" ∧ yX0_isFull.cls ≠ "java/lang/invoke/VarHandle" ∧ (parseMethodDescriptor yX0_isFull.desc).map (fun d => d.parameters.length) = some 0 := by decide +kernel
def kvX0_isFull (qn : Nat) : Int32 := if (nI qn) < (nI 40) then (0 : Int32) else (1 : Int32)
set_option maxHeartbeats 4000000 in
set_option maxRecDepth 100000 in
theorem kX0_isFull (l : Launch) (D : va_G) (cJ : ClassId) (h a1 a2 a3 a4 a5 : Nat) (u d lw uw an : Nat → Int64) (fn qn : Nat) (sd : Int64)  : RoI l yX0_isFull wsX0_isFull ({ frames := 0, cells := 0, slots := 0, locals := 0 } : Room) [.ref h] D (xW cJ h a1 a2 a3 a4 a5 u d lw uw an (nI fn) (nI qn) sd) [(cJ, .long)] (kvX0_isFull qn) := by
  refine oo_head (C := RX0) (cc := cX0_isFull) (maxL := 1) (ret := (some .boolean)) (by decide) rfl rfl (Nat.le_of_ble_eq_true rfl) ?_
  intro p e s m below meth c hx hb hr hlocks hml hown hnm hts hpre ls hl
  have hl : lv_has ls 1 [(0, .ref h)] := hl
  obtain ⟨hP, hK⟩ := hpre
  have hS : va_S oo_N s.heap s.heap [] := va_S.rf
  have hin : ∀ w ∈ wsX00, w ∈ wsX0_isFull := fun w h => List.mem_cons_of_mem _ (List.mem_append_right _ h)
  refine lv_aload_n hx hb dX0_isFull_0 rfl (lv_at hl 0 rfl) ?_
  refine va_get (D := D) (ci := 0) (v := .int (nI qn)) (C := RX0) (T := TX0) (N := 8) hx hb hts hin hown hK hP 0 rfl rfl 6 (by decide) (hts (.fieldLink RX0 29 "OddsSampling" "questionCount" "I") (by decide +kernel)) (fun _ h9 => h9) rfl dX0_isFull_1 ?_
  refine lv_bipush (v := nI 40) hx hb dX0_isFull_4 (by decide) ?_
  refine lv_icmp_lt (tgt := 13) hx hb dX0_isFull_6 (by decide) (fun c_6 => ?_) (fun c_6 => ?_)
  · refine lv_iconst (v := (0 : Int32)) hx hb dX0_isFull_13 (by decide) ?_
    exact ro_retz hx hb hr hlocks hS rfl (by unfold kvX0_isFull; rw [if_pos c_6]) dX0_isFull_14
  · refine lv_iconst (v := (1 : Int32)) hx hb dX0_isFull_9 (by decide) ?_
    refine lv_goto (tgt := 14) hx hb dX0_isFull_10 (by decide) ?_
    exact ro_retz hx hb hr hlocks hS rfl (by unfold kvX0_isFull; rw [if_neg c_6]) dX0_isFull_14
theorem ok_X0_allFacts : yX0_allFacts.cls = RX0 ∧ yX0_allFacts.cls ≠ "java/lang/invoke/MethodHandle" ∧ yX0_allFacts.cls ≠ "java/lang/invoke/VarHandle" ∧ (parseMethodDescriptor yX0_allFacts.desc).map (fun d => d.parameters.length) = some 0 := by decide +kernel
def kvX0_allFacts (fn : Nat) : Int32 := ((1 : Int32) <<< ((nI fn) &&& 31)) - (1 : Int32)
set_option maxHeartbeats 4000000 in
set_option maxRecDepth 100000 in
theorem kX0_allFacts (l : Launch) (D : va_G) (cJ : ClassId) (h a1 a2 a3 a4 a5 : Nat) (u d lw uw an : Nat → Int64) (fn qn : Nat) (sd : Int64)  : RoI l yX0_allFacts wsX0_allFacts ({ frames := 0, cells := 0, slots := 0, locals := 0 } : Room) [.ref h] D (xW cJ h a1 a2 a3 a4 a5 u d lw uw an (nI fn) (nI qn) sd) [(cJ, .long)] (kvX0_allFacts fn) := by
  refine oo_head (C := RX0) (cc := cX0_allFacts) (maxL := 1) (ret := (some .int)) (by decide) rfl rfl (Nat.le_of_ble_eq_true rfl) ?_
  intro p e s m below meth c hx hb hr hlocks hml hown hnm hts hpre ls hl
  have hl : lv_has ls 1 [(0, .ref h)] := hl
  obtain ⟨hP, hK⟩ := hpre
  have hS : va_S oo_N s.heap s.heap [] := va_S.rf
  have hin : ∀ w ∈ wsX00, w ∈ wsX0_allFacts := fun w h => List.mem_cons_of_mem _ (List.mem_append_right _ h)
  refine lv_iconst (v := (1 : Int32)) hx hb dX0_allFacts_0 (by decide) ?_
  refine lv_aload_n hx hb dX0_allFacts_1 rfl (lv_at hl 0 rfl) ?_
  refine va_get (D := D) (ci := 0) (v := .int (nI fn)) (C := RX0) (T := TX0) (N := 8) hx hb hts hin hown hK hP 0 rfl rfl 5 (by decide) (hts (.fieldLink RX0 25 "OddsSampling" "factCount" "I") (by decide +kernel)) (fun _ h9 => h9) rfl dX0_allFacts_2 ?_
  refine lv_ishl hx hb dX0_allFacts_5 ?_
  refine lv_iconst (v := (1 : Int32)) hx hb dX0_allFacts_6 (by decide) ?_
  refine lv_isub hx hb dX0_allFacts_7 ?_
  exact ro_reti hx hb hr hlocks hS (by unfold kvX0_allFacts; rfl) dX0_allFacts_8
theorem ok_X0_areFacts : yX0_areFacts.cls = RX0 ∧ yX0_areFacts.cls ≠ "java/lang/invoke/MethodHandle" ∧ yX0_areFacts.cls ≠ "java/lang/invoke/VarHandle" ∧ (parseMethodDescriptor yX0_areFacts.desc).map (fun d => d.parameters.length) = some 1 := by decide +kernel
def kvX0_areFacts (fn : Nat) (bs : Int32) : Int32 := if (bs &&& ((kvX0_allFacts fn) ^^^ (-1 : Int32))) = 0 then (1 : Int32) else (0 : Int32)
set_option maxHeartbeats 4000000 in
set_option maxRecDepth 100000 in
theorem kX0_areFacts (l : Launch) (D : va_G) (cJ : ClassId) (h a1 a2 a3 a4 a5 : Nat) (u d lw uw an : Nat → Int64) (fn qn : Nat) (sd : Int64) (bs : Int32) : RoI l yX0_areFacts wsX0_areFacts ({ frames := 1, cells := 0, slots := 0, locals := 20 } : Room) [.ref h, .int bs] D (xW cJ h a1 a2 a3 a4 a5 u d lw uw an (nI fn) (nI qn) sd) [(cJ, .long)] (kvX0_areFacts fn bs) := by
  refine oo_head (C := RX0) (cc := cX0_areFacts) (maxL := 2) (ret := (some .boolean)) (by decide) rfl rfl (Nat.le_of_ble_eq_true rfl) ?_
  intro p e s m below meth c hx hb hr hlocks hml hown hnm hts hpre ls hl
  have hl : lv_has ls 2 [(0, .ref h), (1, .int bs)] := hl
  obtain ⟨hP, hK⟩ := hpre
  have hS : va_S oo_N s.heap s.heap [] := va_S.rf
  have hin : ∀ w ∈ wsX00, w ∈ wsX0_areFacts := fun w h => List.mem_cons_of_mem _ (List.mem_append_right _ h)
  refine lv_iload_n hx hb dX0_areFacts_0 rfl (lv_at hl 1 rfl) ?_
  refine lv_aload_n hx hb dX0_areFacts_1 rfl (lv_at hl 0 rfl) ?_
  refine ro_calli (va_runV (As := []) (rest := [.int bs]) ⟨hx, hb, hml, hown, hts⟩ (kX0_allFacts l D cJ h a1 a2 a3 a4 a5 u d lw uw an fn qn sd) (cwV 0 hts gX0_areFacts_X0_allFacts rfl rfl rfl ok_X0_allFacts ⟨Nat.le_of_ble_eq_true rfl, Nat.le_of_ble_eq_true rfl⟩) ⟨oo_blind, va_recv hK hP (ci := 0) (q0 := 0) rfl rfl, oo_ps hP hK [0, 1, 2, 3, 4, 5] rfl [0] rfl⟩ rfl rfl hl.1 rfl (lv_room (Nat.le_of_ble_eq_true rfl)) dX0_areFacts_2 ⟨Nat.le_of_ble_eq_true rfl, Nat.le_of_ble_eq_true rfl⟩) hP hS (fun H locs hP hS => ?_)
  refine lv_iconst (v := (-1 : Int32)) hx hb dX0_areFacts_5 (by decide) ?_
  refine lv_ixor hx hb dX0_areFacts_6 ?_
  refine lv_iand hx hb dX0_areFacts_7 ?_
  refine lv_if_ne (tgt := 15) hx hb dX0_areFacts_8 (by decide) (fun c_8 => ?_) (fun c_8 => ?_)
  · refine lv_iconst (v := (0 : Int32)) hx hb dX0_areFacts_15 (by decide) ?_
    exact ro_retz hx hb hr hlocks hS rfl (by unfold kvX0_areFacts; rw [if_neg c_8]) dX0_areFacts_16
  · refine lv_iconst (v := (1 : Int32)) hx hb dX0_areFacts_11 (by decide) ?_
    refine lv_goto (tgt := 16) hx hb dX0_areFacts_12 (by decide) ?_
    exact ro_retz hx hb hr hlocks hS rfl (by unfold kvX0_areFacts; rw [if_pos c_8]) dX0_areFacts_16
theorem ok_X0_blockOf : yX0_blockOf.cls = RX0 ∧ yX0_blockOf.cls ≠ "java/lang/invoke/MethodHandle" ∧ yX0_blockOf.cls ≠ "java/lang/invoke/VarHandle" ∧ (parseMethodDescriptor yX0_blockOf.desc).map (fun d => d.parameters.length) = some 2 := by decide +kernel
def kvX0_blockOf (an : Nat → Int64) (qn : Nat) (q : Int32) (k : Int32) : Int64 := if (kvX0_isQuestion qn q) = 0 then (0 : Int64) else (if k < 0 then (0 : Int64) else (if k < (nI 64) then (kvX0_at 2560 an ((q * (nI 64)) + k)) else (0 : Int64)))
set_option maxHeartbeats 4000000 in
set_option maxRecDepth 100000 in
theorem kX0_blockOf (l : Launch) (D : va_G) (cJ : ClassId) (h a1 a2 a3 a4 a5 : Nat) (u d lw uw an : Nat → Int64) (fn qn : Nat) (sd : Int64) (q : Int32) (k : Int32) : RoL l yX0_blockOf wsX0_blockOf ({ frames := 1, cells := 0, slots := 0, locals := 21 } : Room) [.ref h, .int q, .int k] D (xW cJ h a1 a2 a3 a4 a5 u d lw uw an (nI fn) (nI qn) sd) [(cJ, .long)] (kvX0_blockOf an qn q k) := by
  refine oo_head (C := RX0) (cc := cX0_blockOf) (maxL := 3) (ret := (some .long)) (by decide) rfl rfl (Nat.le_of_ble_eq_true rfl) ?_
  intro p e s m below meth c hx hb hr hlocks hml hown hnm hts hpre ls hl
  have hl : lv_has ls 3 [(0, .ref h), (1, .int q), (2, .int k)] := hl
  obtain ⟨hP, hK⟩ := hpre
  have hS : va_S oo_N s.heap s.heap [] := va_S.rf
  have hin : ∀ w ∈ wsX00, w ∈ wsX0_blockOf := fun w h => List.mem_cons_of_mem _ (List.mem_append_right _ h)
  refine lv_aload_n hx hb dX0_blockOf_0 rfl (lv_at hl 0 rfl) ?_
  refine lv_iload_n hx hb dX0_blockOf_1 rfl (lv_at hl 1 rfl) ?_
  refine ro_calli (va_runV (As := [.int q]) (rest := []) ⟨hx, hb, hml, hown, hts⟩ (kX0_isQuestion l D cJ h a1 a2 a3 a4 a5 u d lw uw an fn qn sd q) (cwV 1 hts gX0_blockOf_X0_isQuestion rfl rfl rfl ok_X0_isQuestion ⟨Nat.le_of_ble_eq_true rfl, Nat.le_of_ble_eq_true rfl⟩) ⟨oo_blind, va_recv hK hP (ci := 0) (q0 := 0) rfl rfl, oo_ps hP hK [0, 1, 2, 3, 4, 5] rfl [0] rfl⟩ rfl rfl hl.1 rfl (lv_room (Nat.le_of_ble_eq_true rfl)) dX0_blockOf_2 ⟨Nat.le_of_ble_eq_true rfl, Nat.le_of_ble_eq_true rfl⟩) hP hS (fun H locs hP hS => ?_)
  refine lv_if_eq (tgt := 18) hx hb dX0_blockOf_5 (by decide) (fun c_5 => ?_) (fun c_5 => ?_)
  · refine lv_lconst (v := (0 : Int64)) hx hb dX0_blockOf_18 (by decide) ?_
    exact ro_retl hx hb hr hlocks hS (by unfold kvX0_blockOf; rw [if_pos c_5]) dX0_blockOf_19
  · refine lv_iload_n hx hb dX0_blockOf_8 rfl (lv_at hl 2 rfl) ?_
    refine lv_if_lt (tgt := 18) hx hb dX0_blockOf_9 (by decide) (fun c_9 => ?_) (fun c_9 => ?_)
    · refine lv_lconst (v := (0 : Int64)) hx hb dX0_blockOf_18 (by decide) ?_
      exact ro_retl hx hb hr hlocks hS (by unfold kvX0_blockOf; rw [if_neg c_5, if_pos c_9]) dX0_blockOf_19
    · refine lv_iload_n hx hb dX0_blockOf_12 rfl (lv_at hl 2 rfl) ?_
      refine lv_bipush (v := nI 64) hx hb dX0_blockOf_13 (by decide) ?_
      refine lv_icmp_lt (tgt := 20) hx hb dX0_blockOf_15 (by decide) (fun c_15 => ?_) (fun c_15 => ?_)
      · refine lv_aload_n hx hb dX0_blockOf_20 rfl (lv_at hl 0 rfl) ?_
        refine va_get (D := D) (ci := 0) (v := .ref a5) (C := RX0) (T := TX0) (N := 8) hx hb hts hin hown hK hP 0 rfl rfl 4 (by decide) (hts (.fieldLink RX0 22 "OddsSampling" "answers" "[J") (by decide +kernel)) (fun _ h9 => h9) rfl dX0_blockOf_21 ?_
        refine lv_iload_n hx hb dX0_blockOf_24 rfl (lv_at hl 1 rfl) ?_
        refine lv_bipush (v := nI 64) hx hb dX0_blockOf_25 (by decide) ?_
        refine lv_imul hx hb dX0_blockOf_27 ?_
        refine lv_iload_n hx hb dX0_blockOf_28 rfl (lv_at hl 2 rfl) ?_
        refine lv_iadd hx hb dX0_blockOf_29 ?_
        refine ro_calll (va_runS (As := [.ref a5, .int ((q * (nI 64)) + k)]) (rest := []) ⟨hx, hb, hml, hown, hts⟩ (kX0_at l D cJ a5 2560 an ((q * (nI 64)) + k) (by omega)) (va_cwS 2 hts gX0_blockOf_X0_at rfl rfl rfl ok_X0_at ⟨Nat.le_of_ble_eq_true rfl, Nat.le_of_ble_eq_true rfl⟩) ⟨oo_blind, oo_ps hP hK [5] rfl [0] rfl⟩ rfl rfl hl.1 rfl (lv_room (Nat.le_of_ble_eq_true rfl)) dX0_blockOf_30 ⟨Nat.le_of_ble_eq_true rfl, Nat.le_of_ble_eq_true rfl⟩) hP hS (fun H locs hP hS => ?_)
        exact ro_retl hx hb hr hlocks hS (by unfold kvX0_blockOf; rw [if_neg c_5, if_neg c_9, if_pos c_15]) dX0_blockOf_33
      · refine lv_lconst (v := (0 : Int64)) hx hb dX0_blockOf_18 (by decide) ?_
        exact ro_retl hx hb hr hlocks hS (by unfold kvX0_blockOf; rw [if_neg c_5, if_neg c_9, if_neg c_15]) dX0_blockOf_19
theorem ok_X0_isTrue : yX0_isTrue.cls = RX0 ∧ yX0_isTrue.cls ≠ "java/lang/invoke/MethodHandle" ∧ yX0_isTrue.cls ≠ "java/lang/invoke/VarHandle" ∧ (parseMethodDescriptor yX0_isTrue.desc).map (fun d => d.parameters.length) = some 2 := by decide +kernel
def kvX0_isTrue (an : Nat → Int64) (qn : Nat) (q : Int32) (w : Int32) : Int32 := kvX0_isBitOn (kvX0_blockOf an qn q (w / (nI 64))) (w - w / (nI 64) * (nI 64))
set_option maxHeartbeats 4000000 in
set_option maxRecDepth 100000 in
theorem kX0_isTrue (l : Launch) (D : va_G) (cJ : ClassId) (h a1 a2 a3 a4 a5 : Nat) (u d lw uw an : Nat → Int64) (fn qn : Nat) (sd : Int64) (q : Int32) (w : Int32) : RoI l yX0_isTrue wsX0_isTrue ({ frames := 2, cells := 0, slots := 0, locals := 43 } : Room) [.ref h, .int q, .int w] D (xW cJ h a1 a2 a3 a4 a5 u d lw uw an (nI fn) (nI qn) sd) [(cJ, .long)] (kvX0_isTrue an qn q w) := by
  refine oo_head (C := RX0) (cc := cX0_isTrue) (maxL := 5) (ret := (some .boolean)) (by decide) rfl rfl (Nat.le_of_ble_eq_true rfl) ?_
  intro p e s m below meth c hx hb hr hlocks hml hown hnm hts hpre ls hl
  have hl : lv_has ls 5 [(0, .ref h), (1, .int q), (2, .int w)] := hl
  obtain ⟨hP, hK⟩ := hpre
  have hS : va_S oo_N s.heap s.heap [] := va_S.rf
  have hin : ∀ w ∈ wsX00, w ∈ wsX0_isTrue := fun w h => List.mem_cons_of_mem _ (List.mem_append_right _ h)
  refine lv_aload_n hx hb dX0_isTrue_0 rfl (lv_at hl 0 rfl) ?_
  refine lv_iload_n hx hb dX0_isTrue_1 rfl (lv_at hl 1 rfl) ?_
  refine lv_iload_n hx hb dX0_isTrue_2 rfl (lv_at hl 2 rfl) ?_
  refine lv_bipush (v := nI 64) hx hb dX0_isTrue_3 (by decide) ?_
  refine lv_idiv hx hb dX0_isTrue_5 (by decide) ?_
  refine ro_calll (va_runV (As := [.int q, .int (w / (nI 64))]) (rest := []) ⟨hx, hb, hml, hown, hts⟩ (kX0_blockOf l D cJ h a1 a2 a3 a4 a5 u d lw uw an fn qn sd q (w / (nI 64))) (cwV 2 hts gX0_isTrue_X0_blockOf rfl rfl rfl ok_X0_blockOf ⟨Nat.le_of_ble_eq_true rfl, Nat.le_of_ble_eq_true rfl⟩) ⟨oo_blind, va_recv hK hP (ci := 0) (q0 := 0) rfl rfl, oo_ps hP hK [0, 1, 2, 3, 4, 5] rfl [0] rfl⟩ rfl rfl hl.1 rfl (lv_room (Nat.le_of_ble_eq_true rfl)) dX0_isTrue_6 ⟨Nat.le_of_ble_eq_true rfl, Nat.le_of_ble_eq_true rfl⟩) hP hS (fun H locs hP hS => ?_)
  refine lv_lstore_n (lv' := [(3, .long (kvX0_blockOf an qn q (w / (nI 64)))), (0, .ref h), (1, .int q), (2, .int w)]) hx hb dX0_isTrue_9 rfl hl (by decide) rfl (fun ls hl => ?_)
  refine lv_lload_n hx hb dX0_isTrue_10 rfl (lv_at hl 0 rfl) ?_
  refine lv_iload_n hx hb dX0_isTrue_11 rfl (lv_at hl 3 rfl) ?_
  refine lv_bipush (v := nI 64) hx hb dX0_isTrue_12 (by decide) ?_
  refine lv_irem hx hb dX0_isTrue_14 (by decide) ?_
  refine ro_calli (va_runS (As := [.long (kvX0_blockOf an qn q (w / (nI 64))), .int (w - w / (nI 64) * (nI 64))]) (rest := []) ⟨hx, hb, hml, hown, hts⟩ (kX0_isBitOn l D (kvX0_blockOf an qn q (w / (nI 64))) (w - w / (nI 64) * (nI 64))) (va_cwS 2 hts gX0_isTrue_X0_isBitOn rfl rfl rfl ok_X0_isBitOn ⟨Nat.le_of_ble_eq_true rfl, Nat.le_of_ble_eq_true rfl⟩) ⟨oo_blind, oo_ps hP hK [] rfl [] rfl⟩ rfl rfl hl.1 rfl (lv_room (Nat.le_of_ble_eq_true rfl)) dX0_isTrue_15 ⟨Nat.le_of_ble_eq_true rfl, Nat.le_of_ble_eq_true rfl⟩) hP hS (fun H locs hP hS => ?_)
  exact ro_retz hx hb hr hlocks hS (by unfold kvX0_isBitOn; split <;> rfl) (by unfold kvX0_isTrue; rfl) dX0_isTrue_18
theorem ok_X0_keepNext : yX0_keepNext.cls = RX0 ∧ yX0_keepNext.cls ≠ "java/lang/invoke/MethodHandle" ∧ yX0_keepNext.cls ≠ "java/lang/invoke/VarHandle" ∧ (parseMethodDescriptor yX0_keepNext.desc).map (fun d => d.parameters.length) = some 0 := by decide +kernel
def kvX0_keepNext (qn : Nat) : Int32 := nI qn
set_option maxHeartbeats 4000000 in
set_option maxRecDepth 100000 in
theorem kX0_keepNext (l : Launch) (D : va_G) (cJ : ClassId) (h a1 a2 a3 a4 a5 : Nat) (u d lw uw an : Nat → Int64) (fn qn : Nat) (sd : Int64)  : MuI l yX0_keepNext wsX0_keepNext ({ frames := 0, cells := 0, slots := 0, locals := 0 } : Room) [.ref h] D (xW cJ h a1 a2 a3 a4 a5 u d lw uw an (nI fn) (nI qn) sd) [(cJ, .long)] (xW cJ h a1 a2 a3 a4 a5 u d lw uw an (nI fn) (nI (qn + 1)) sd) (kvX0_keepNext qn) := by
  intro sz
  refine oo_head (C := RX0) (cc := cX0_keepNext) (maxL := 2) (ret := (some .int)) (by decide) rfl rfl (Nat.le_of_ble_eq_true rfl) ?_
  intro p e s m below meth c hx hb hr hlocks hml hown hnm hts hpre ls hl
  have hl : lv_has ls 2 [(0, .ref h)] := hl
  obtain ⟨rfl, hP, hK, hD0⟩ := hpre
  have hD := hD0.self (sz := s.heap.size)
  have hA := oo_A (xW cJ h a1 a2 a3 a4 a5 u d lw uw an (nI fn) (nI qn) sd) s
  have hS : va_S (va_A (xW cJ h a1 a2 a3 a4 a5 u d lw uw an (nI fn) (nI qn) sd) s.heap.size) s.heap s.heap [] := va_S.rf
  have hin : ∀ w ∈ wsX00, w ∈ wsX0_keepNext := fun w h => List.mem_cons_of_mem _ (List.mem_append_right _ h)
  refine lv_aload_n hx hb dX0_keepNext_0 rfl (lv_at hl 0 rfl) ?_
  refine va_get (D := D) (ci := 0) (v := .int (nI qn)) (C := RX0) (T := TX0) (N := 8) hx hb hts hin hown hK hP 0 rfl rfl 6 (by decide) (hts (.fieldLink RX0 29 "OddsSampling" "questionCount" "I") (by decide +kernel)) (fun _ h9 => h9) rfl dX0_keepNext_1 ?_
  refine lv_istore_n (lv' := [(1, .int (nI qn)), (0, .ref h)]) hx hb dX0_keepNext_4 rfl hl (by decide) rfl (fun ls hl => ?_)
  refine lv_aload_n hx hb dX0_keepNext_5 rfl (lv_at hl 1 rfl) ?_
  refine lv_dup hx hb dX0_keepNext_6 rfl ?_
  refine va_get (D := D) (ci := 0) (v := .int (nI qn)) (C := RX0) (T := TX0) (N := 8) hx hb hts hin hown hK hP 0 rfl rfl 6 (by decide) (hts (.fieldLink RX0 29 "OddsSampling" "questionCount" "I") (by decide +kernel)) (fun _ h9 => h9) rfl dX0_keepNext_7 ?_
  refine lv_iconst (v := (1 : Int32)) hx hb dX0_keepNext_10 (by decide) ?_
  refine lv_iadd hx hb dX0_keepNext_11 ?_
  refine oo_topI (y := nI (qn + 1)) (nI_1 qn) ?_
  refine va_put (D := D) (ci := 0) (v := .int (nI (qn + 1))) (ty := .int) (C := RX0) (T := TX0) (N := 8) hx hb hts hin tyX0 tyX0_ok nmX0 hown hK hP hD hS 0 rfl rfl 6 (by decide) (hts (.fieldLink RX0 29 "OddsSampling" "questionCount" "I") (by decide +kernel)) (fun _ h9 => h9) rfl (by decide +kernel) rfl rfl (Nat.le_of_ble_eq_true rfl) dX0_keepNext_12 (fun H locs hP hD hS => ?_)
  have hP : va_P D vwCl (xW cJ h a1 a2 a3 a4 a5 u d lw uw an (nI fn) (nI (qn + 1)) sd) H := hP
  have hD : va_D _ (xW cJ h a1 a2 a3 a4 a5 u d lw uw an (nI fn) (nI (qn + 1)) sd) := hD
  refine lv_iload_n hx hb dX0_keepNext_15 rfl (lv_at hl 0 rfl) ?_
  exact mu_reti hx hb hr hlocks hP hD hS (by unfold kvX0_keepNext; rfl) dX0_keepNext_16
theorem ok_X0_putNextBlock : yX0_putNextBlock.cls = RX0 ∧ yX0_putNextBlock.cls ≠ "java/lang/invoke/MethodHandle" ∧ yX0_putNextBlock.cls ≠ "java/lang/invoke/VarHandle" ∧ (parseMethodDescriptor yX0_putNextBlock.desc).map (fun d => d.parameters.length) = some 2 := by decide +kernel
set_option maxHeartbeats 4000000 in
set_option maxRecDepth 100000 in
theorem kX0_putNextBlock (l : Launch) (D : va_G) (cJ : ClassId) (h a1 a2 a3 a4 a5 : Nat) (u d lw uw an : Nat → Int64) (fn qn : Nat) (sd : Int64) (k : Int32) (v : Int64) : MuV l yX0_putNextBlock wsX0_putNextBlock ({ frames := 1, cells := 0, slots := 0, locals := 23 } : Room) [.ref h, .int k, .long v] D (xW cJ h a1 a2 a3 a4 a5 u d lw uw an (nI fn) (nI qn) sd) [(cJ, .long)] (xW cJ h a1 a2 a3 a4 a5 u d lw uw (kvX0_put_c0 2560 an (((nI qn) * (nI 64)) + k) v) (nI fn) (nI qn) sd) := by
  intro sz
  refine oo_head (C := RX0) (cc := cX0_putNextBlock) (maxL := 4) (ret := none) (by decide) rfl rfl (Nat.le_of_ble_eq_true rfl) ?_
  intro p e s m below meth c hx hb hr hlocks hml hown hnm hts hpre ls hl
  have hl : lv_has ls 4 [(0, .ref h), (1, .int k), (2, .long v)] := hl
  obtain ⟨rfl, hP, hK, hD0⟩ := hpre
  have hD := hD0.self (sz := s.heap.size)
  have hA := oo_A (xW cJ h a1 a2 a3 a4 a5 u d lw uw an (nI fn) (nI qn) sd) s
  have hS : va_S (va_A (xW cJ h a1 a2 a3 a4 a5 u d lw uw an (nI fn) (nI qn) sd) s.heap.size) s.heap s.heap [] := va_S.rf
  have hin : ∀ w ∈ wsX00, w ∈ wsX0_putNextBlock := fun w h => List.mem_cons_of_mem _ (List.mem_append_right _ h)
  refine lv_aload_n hx hb dX0_putNextBlock_0 rfl (lv_at hl 0 rfl) ?_
  refine va_get (D := D) (ci := 0) (v := .ref a5) (C := RX0) (T := TX0) (N := 8) hx hb hts hin hown hK hP 0 rfl rfl 4 (by decide) (hts (.fieldLink RX0 22 "OddsSampling" "answers" "[J") (by decide +kernel)) (fun _ h9 => h9) rfl dX0_putNextBlock_1 ?_
  refine lv_aload_n hx hb dX0_putNextBlock_4 rfl (lv_at hl 0 rfl) ?_
  refine va_get (D := D) (ci := 0) (v := .int (nI qn)) (C := RX0) (T := TX0) (N := 8) hx hb hts hin hown hK hP 0 rfl rfl 6 (by decide) (hts (.fieldLink RX0 29 "OddsSampling" "questionCount" "I") (by decide +kernel)) (fun _ h9 => h9) rfl dX0_putNextBlock_5 ?_
  refine lv_bipush (v := nI 64) hx hb dX0_putNextBlock_8 (by decide) ?_
  refine lv_imul hx hb dX0_putNextBlock_10 ?_
  refine lv_iload_n hx hb dX0_putNextBlock_11 rfl (lv_at hl 1 rfl) ?_
  refine lv_iadd hx hb dX0_putNextBlock_12 ?_
  refine lv_lload_n hx hb dX0_putNextBlock_13 rfl (lv_at hl 2 rfl) ?_
  refine mu_callv (va_runS (As := [.ref a5, .int (((nI qn) * (nI 64)) + k), .long v]) (rest := []) ⟨hx, hb, hml, hown, hts⟩ (kX0_put l D cJ a5 2560 an (((nI qn) * (nI 64)) + k) v (by omega) _) (va_cwS 3 hts gX0_putNextBlock_X0_put rfl rfl rfl ok_X0_put ⟨Nat.le_of_ble_eq_true rfl, Nat.le_of_ble_eq_true rfl⟩) ⟨oo_blindM, oo_psM hP hD hK [5] rfl rfl [0] rfl⟩ rfl rfl hl.1 rfl (lv_room (Nat.le_of_ble_eq_true rfl)) dX0_putNextBlock_14 ⟨Nat.le_of_ble_eq_true rfl, Nat.le_of_ble_eq_true rfl⟩) hP hD hS hA [5] rfl rfl (fun H locs hP hD hS => ?_)
  have hP : va_P D vwCl (xW cJ h a1 a2 a3 a4 a5 u d lw uw (kvX0_put_c0 2560 an (((nI qn) * (nI 64)) + k) v) (nI fn) (nI qn) sd) H := hP
  have hD : va_D _ (xW cJ h a1 a2 a3 a4 a5 u d lw uw (kvX0_put_c0 2560 an (((nI qn) * (nI 64)) + k) v) (nI fn) (nI qn) sd) := hD
  exact mu_retv hx hb hr hlocks hP hD hS dX0_putNextBlock_17
theorem ok_X0_weightOf : yX0_weightOf.cls = RX0 ∧ yX0_weightOf.cls ≠ "java/lang/invoke/MethodHandle" ∧ yX0_weightOf.cls ≠ "java/lang/invoke/VarHandle" ∧ (parseMethodDescriptor yX0_weightOf.desc).map (fun d => d.parameters.length) = some 1 := by decide +kernel
def kvX0_weightOf (lw : Nat → Int64) (uw : Nat → Int64) (w : Int32) : Int64 := (kvX0_at 64 lw (w - w / (nI 64) * (nI 64))) * (kvX0_at 64 uw (w / (nI 64)))
set_option maxHeartbeats 4000000 in
set_option maxRecDepth 100000 in
theorem kX0_weightOf (l : Launch) (D : va_G) (cJ : ClassId) (h a1 a2 a3 a4 a5 : Nat) (u d lw uw an : Nat → Int64) (fn qn : Nat) (sd : Int64) (w : Int32) : RoL l yX0_weightOf wsX0_weightOf ({ frames := 1, cells := 0, slots := 0, locals := 21 } : Room) [.ref h, .int w] D (xW cJ h a1 a2 a3 a4 a5 u d lw uw an (nI fn) (nI qn) sd) [(cJ, .long)] (kvX0_weightOf lw uw w) := by
  refine oo_head (C := RX0) (cc := cX0_weightOf) (maxL := 2) (ret := (some .long)) (by decide) rfl rfl (Nat.le_of_ble_eq_true rfl) ?_
  intro p e s m below meth c hx hb hr hlocks hml hown hnm hts hpre ls hl
  have hl : lv_has ls 2 [(0, .ref h), (1, .int w)] := hl
  obtain ⟨hP, hK⟩ := hpre
  have hS : va_S oo_N s.heap s.heap [] := va_S.rf
  have hin : ∀ w ∈ wsX00, w ∈ wsX0_weightOf := fun w h => List.mem_cons_of_mem _ (List.mem_append_right _ h)
  refine lv_aload_n hx hb dX0_weightOf_0 rfl (lv_at hl 0 rfl) ?_
  refine va_get (D := D) (ci := 0) (v := .ref a3) (C := RX0) (T := TX0) (N := 8) hx hb hts hin hown hK hP 0 rfl rfl 2 (by decide) (hts (.fieldLink RX0 16 "OddsSampling" "lowerWeights" "[J") (by decide +kernel)) (fun _ h9 => h9) rfl dX0_weightOf_1 ?_
  refine lv_iload_n hx hb dX0_weightOf_4 rfl (lv_at hl 1 rfl) ?_
  refine lv_bipush (v := nI 64) hx hb dX0_weightOf_5 (by decide) ?_
  refine lv_irem hx hb dX0_weightOf_7 (by decide) ?_
  refine ro_calll (va_runS (As := [.ref a3, .int (w - w / (nI 64) * (nI 64))]) (rest := []) ⟨hx, hb, hml, hown, hts⟩ (kX0_at l D cJ a3 64 lw (w - w / (nI 64) * (nI 64)) (by omega)) (va_cwS 2 hts gX0_weightOf_X0_at rfl rfl rfl ok_X0_at ⟨Nat.le_of_ble_eq_true rfl, Nat.le_of_ble_eq_true rfl⟩) ⟨oo_blind, oo_ps hP hK [3] rfl [0] rfl⟩ rfl rfl hl.1 rfl (lv_room (Nat.le_of_ble_eq_true rfl)) dX0_weightOf_8 ⟨Nat.le_of_ble_eq_true rfl, Nat.le_of_ble_eq_true rfl⟩) hP hS (fun H locs hP hS => ?_)
  refine lv_aload_n hx hb dX0_weightOf_11 rfl (lv_at hl 0 rfl) ?_
  refine va_get (D := D) (ci := 0) (v := .ref a4) (C := RX0) (T := TX0) (N := 8) hx hb hts hin hown hK hP 0 rfl rfl 3 (by decide) (hts (.fieldLink RX0 19 "OddsSampling" "upperWeights" "[J") (by decide +kernel)) (fun _ h9 => h9) rfl dX0_weightOf_12 ?_
  refine lv_iload_n hx hb dX0_weightOf_15 rfl (lv_at hl 1 rfl) ?_
  refine lv_bipush (v := nI 64) hx hb dX0_weightOf_16 (by decide) ?_
  refine lv_idiv hx hb dX0_weightOf_18 (by decide) ?_
  refine ro_calll (va_runS (As := [.ref a4, .int (w / (nI 64))]) (rest := [.long (kvX0_at 64 lw (w - w / (nI 64) * (nI 64)))]) ⟨hx, hb, hml, hown, hts⟩ (kX0_at l D cJ a4 64 uw (w / (nI 64)) (by omega)) (va_cwS 2 hts gX0_weightOf_X0_at rfl rfl rfl ok_X0_at ⟨Nat.le_of_ble_eq_true rfl, Nat.le_of_ble_eq_true rfl⟩) ⟨oo_blind, oo_ps hP hK [4] rfl [0] rfl⟩ rfl rfl hl.1 rfl (lv_room (Nat.le_of_ble_eq_true rfl)) dX0_weightOf_19 ⟨Nat.le_of_ble_eq_true rfl, Nat.le_of_ble_eq_true rfl⟩) hP hS (fun H locs hP hS => ?_)
  refine lv_lmul hx hb dX0_weightOf_22 ?_
  exact ro_retl hx hb hr hlocks hS (by unfold kvX0_weightOf; rfl) dX0_weightOf_23
