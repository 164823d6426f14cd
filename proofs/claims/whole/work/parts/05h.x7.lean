theorem ok_X0_draw : yX0_draw.cls = RX0 ∧ yX0_draw.cls ≠ "java/lang/invoke/MethodHandle" ∧ yX0_draw.cls ≠ "java/lang/invoke/VarHandle" ∧ (parseMethodDescriptor yX0_draw.desc).map (fun d => d.parameters.length) = some 0 := by decide +kernel
def kvX0_draw (sd : Int64) : Int64 := ((kl_lcg sd).toUInt64 >>> ((nI 17).toInt64.toUInt64 &&& Int64.toUInt64 63)).toInt64
set_option maxHeartbeats 4000000 in
set_option maxRecDepth 100000 in
theorem kX0_draw (l : Launch) (D : va_G) (cJ : ClassId) (h a1 a2 a3 a4 a5 : Nat) (u d lw uw an : Nat → Int64) (fn qn : Nat) (sd : Int64)  : MuL l yX0_draw wsX0_draw ({ frames := 0, cells := 0, slots := 0, locals := 0 } : Room) [.ref h] D (xW cJ h a1 a2 a3 a4 a5 u d lw uw an (nI fn) (nI qn) sd) [(cJ, .long)] (xW cJ h a1 a2 a3 a4 a5 u d lw uw an (nI fn) (nI qn) (kl_lcg sd)) (kvX0_draw sd) := by
  intro sz
  refine oo_head (C := RX0) (cc := cX0_draw) (maxL := 1) (ret := (some .long)) (by decide) rfl rfl (Nat.le_of_ble_eq_true rfl) ?_
  intro p e s m below meth c hx hb hr hlocks hml hown hnm hts hpre ls hl
  have hl : lv_has ls 1 [(0, .ref h)] := hl
  obtain ⟨rfl, hP, hK, hD0⟩ := hpre
  have hD := hD0.self (sz := s.heap.size)
  have hA := oo_A (xW cJ h a1 a2 a3 a4 a5 u d lw uw an (nI fn) (nI qn) sd) s
  have hS : va_S (va_A (xW cJ h a1 a2 a3 a4 a5 u d lw uw an (nI fn) (nI qn) sd) s.heap.size) s.heap s.heap [] := va_S.rf
  have hin : ∀ w ∈ wsX00, w ∈ wsX0_draw := fun w h => List.mem_cons_of_mem _ (List.mem_append_right _ h)
  refine lv_aload_n hx hb dX0_draw_0 rfl (lv_at hl 0 rfl) ?_
  refine lv_aload_n hx hb dX0_draw_1 rfl (lv_at hl 0 rfl) ?_
  refine va_get (D := D) (ci := 0) (v := .long sd) (C := RX0) (T := TX0) (N := 8) hx hb hts hin hown hK hP 0 rfl rfl 7 (by decide) (hts (.fieldLink RX0 32 "OddsSampling" "lastSeed" "J") (by decide +kernel)) (fun _ h9 => h9) rfl dX0_draw_2 ?_
  refine lv_ldc2 hx hb hown (hts (.constantLong RX0 181 (25214903917)) (by decide +kernel)) dX0_draw_5 ?_
  refine lv_lmul hx hb dX0_draw_8 ?_
  refine lv_ldc2 hx hb hown (hts (.constantLong RX0 183 (11)) (by decide +kernel)) dX0_draw_9 ?_
  refine lv_ladd hx hb dX0_draw_12 ?_
  refine lv_ldc2 hx hb hown (hts (.constantLong RX0 141 (281474976710655)) (by decide +kernel)) dX0_draw_13 ?_
  refine lv_land hx hb dX0_draw_16 ?_
  refine oo_topL (y := kl_lcg sd) rfl ?_
  refine va_put (D := D) (ci := 0) (v := .long (kl_lcg sd)) (ty := .long) (C := RX0) (T := TX0) (N := 8) hx hb hts hin tyX0 tyX0_ok nmX0 hown hK hP hD hS 0 rfl rfl 7 (by decide) (hts (.fieldLink RX0 32 "OddsSampling" "lastSeed" "J") (by decide +kernel)) (fun _ h9 => h9) rfl (by decide +kernel) rfl rfl (Nat.le_of_ble_eq_true rfl) dX0_draw_17 (fun H locs hP hD hS => ?_)
  have hP : va_P D vwCl (xW cJ h a1 a2 a3 a4 a5 u d lw uw an (nI fn) (nI qn) (kl_lcg sd)) H := hP
  have hD : va_D _ (xW cJ h a1 a2 a3 a4 a5 u d lw uw an (nI fn) (nI qn) (kl_lcg sd)) := hD
  refine lv_aload_n hx hb dX0_draw_20 rfl (lv_at hl 0 rfl) ?_
  refine va_get (D := D) (ci := 0) (v := .long (kl_lcg sd)) (C := RX0) (T := TX0) (N := 8) hx hb hts hin hown hK hP 0 rfl rfl 7 (by decide) (hts (.fieldLink RX0 32 "OddsSampling" "lastSeed" "J") (by decide +kernel)) (fun _ h9 => h9) rfl dX0_draw_21 ?_
  refine lv_bipush (v := nI 17) hx hb dX0_draw_24 (by decide) ?_
  refine lv_lushr hx hb dX0_draw_26 rfl ?_
  exact mu_retl hx hb hr hlocks hP hD hS (by unfold kvX0_draw; rfl) dX0_draw_27
def kl_sds (sd : Int64) : Nat → Int64
  | 0 => sd
  | n + 1 => kl_lcg (kl_sds sd n)
def kl_dw (u d : Nat → Int64) (sd : Int64) : Nat → Int32
  | 0 => 0
  | n + 1 => if lg_cmp (kvX0_at 12 d (nI n)) 0 ≤ 0 then kl_dw u d sd n else (if 0 ≤ lg_cmp (kvX0_draw (kl_sds sd n) - kvX0_draw (kl_sds sd n) / kvX0_at 12 d (nI n) * kvX0_at 12 d (nI n)) (kvX0_at 12 u (nI n)) then kl_dw u d sd n else kl_dw u d sd n ||| ((1 : Int32) <<< (nI n &&& 31)))
theorem ok_X0_drawWorld : yX0_drawWorld.cls = RX0 ∧ yX0_drawWorld.cls ≠ "java/lang/invoke/MethodHandle" ∧ yX0_drawWorld.cls ≠ "java/lang/invoke/VarHandle" ∧ (parseMethodDescriptor yX0_drawWorld.desc).map (fun d => d.parameters.length) = some 0 := by decide +kernel
def kvX0_drawWorld (u : Nat → Int64) (d : Nat → Int64) (fn : Nat) (sd : Int64) : Int32 := kl_dw u d sd fn
set_option maxHeartbeats 4000000 in
set_option maxRecDepth 100000 in
theorem kX0_drawWorld (l : Launch) (D : va_G) (cJ : ClassId) (h a1 a2 a3 a4 a5 : Nat) (u d lw uw an : Nat → Int64) (fn qn : Nat) (sd : Int64)  (hfn : fn ≤ 12) : MuI l yX0_drawWorld wsX0_drawWorld ({ frames := 1, cells := 0, slots := 0, locals := 21 } : Room) [.ref h] D (xW cJ h a1 a2 a3 a4 a5 u d lw uw an (nI fn) (nI qn) sd) [(cJ, .long)] (xW cJ h a1 a2 a3 a4 a5 u d lw uw an (nI fn) (nI qn) (kl_sds sd fn)) (kvX0_drawWorld u d fn sd) := by
  intro sz
  refine oo_head (C := RX0) (cc := cX0_drawWorld) (maxL := 7) (ret := (some .int)) (by decide) rfl rfl (Nat.le_of_ble_eq_true rfl) ?_
  intro p e s m below meth c hx hb hr hlocks hml hown hnm hts hpre ls hl
  have hl : lv_has ls 7 [(0, .ref h)] := hl
  obtain ⟨rfl, hP, hK, hD0⟩ := hpre
  have hD := hD0.self (sz := s.heap.size)
  have hA := oo_A (xW cJ h a1 a2 a3 a4 a5 u d lw uw an (nI fn) (nI qn) sd) s
  have hS : va_S (va_A (xW cJ h a1 a2 a3 a4 a5 u d lw uw an (nI fn) (nI qn) sd) s.heap.size) s.heap s.heap [] := va_S.rf
  have hin : ∀ w ∈ wsX00, w ∈ wsX0_drawWorld := fun w h => List.mem_cons_of_mem _ (List.mem_append_right _ h)
  refine lv_iconst (v := (0 : Int32)) hx hb dX0_drawWorld_0 (by decide) ?_
  refine lv_istore_n (lv' := [(1, .int (0 : Int32)), (0, .ref h)]) hx hb dX0_drawWorld_1 rfl hl (by decide) rfl (fun ls hl => ?_)
  refine lv_iconst (v := nI 0) hx hb dX0_drawWorld_2 (by decide) ?_
  refine lv_istore_n (lv' := [(2, .int (nI 0)), (1, .int (0 : Int32)), (0, .ref h)]) hx hb dX0_drawWorld_3 rfl hl (by decide) rfl (fun ls hl => ?_)
  have hl : lv_has ls 7 [(0, .ref h), (1, .int (0 : Int32)), (2, .int (nI 0))] := lv_sub hl [2, 1, 0] rfl
  have hl := Eq.mp (congrArg (fun z9 => lv_has ls 7 [(0, .ref h), (1, .int z9), (2, .int (nI 0))]) (show (0 : Int32) = kl_dw u d sd 0 from (by simp only [kl_dw, kl_sds]))) hl
  have hP := Eq.mp (congrArg (fun z9 => va_P D vwCl (xW cJ h a1 a2 a3 a4 a5 u d lw uw an (nI fn) (nI qn) z9) s.heap) (show sd = kl_sds sd 0 from (by simp only [kl_dw, kl_sds]))) hP
  have hP : va_P D vwCl (xW cJ h a1 a2 a3 a4 a5 u d lw uw an (nI fn) (nI qn) (kl_sds sd 0)) s.heap := hP
  have hD : va_D _ (xW cJ h a1 a2 a3 a4 a5 u d lw uw an (nI fn) (nI qn) (kl_sds sd 0)) := oo_Dre hD (oo_fc (oo_fc (oo_fc (oo_fc (oo_fc (oo_fc rfl))))))
  refine oo_loop (N := fn) (fun n H locs ls => va_P D vwCl (xW cJ h a1 a2 a3 a4 a5 u d lw uw an (nI fn) (nI qn) (kl_sds sd n)) H ∧ va_D (va_A (xW cJ h a1 a2 a3 a4 a5 u d lw uw an (nI fn) (nI qn) sd) s.heap.size) (xW cJ h a1 a2 a3 a4 a5 u d lw uw an (nI fn) (nI qn) (kl_sds sd n)) ∧ va_S (va_A (xW cJ h a1 a2 a3 a4 a5 u d lw uw an (nI fn) (nI qn) sd) s.heap.size) s.heap H locs ∧ lv_has ls 7 [(0, .ref h), (1, .int (kl_dw u d sd n)), (2, .int (nI n))]) ?_ ?_ 0 (Nat.zero_le _) ⟨hP, hD, hS, hl⟩
  · intro H locs ls hI
    obtain ⟨hP, hD, hS, hl⟩ := hI
    refine lv_iload_n hx hb dX0_drawWorld_4 rfl (lv_at hl 2 rfl) ?_
    refine lv_aload_n hx hb dX0_drawWorld_5 rfl (lv_at hl 0 rfl) ?_
    refine va_get (D := D) (ci := 0) (v := .int (nI fn)) (C := RX0) (T := TX0) (N := 8) hx hb hts hin hown hK hP 0 rfl rfl 5 (by decide) (hts (.fieldLink RX0 25 "OddsSampling" "factCount" "I") (by decide +kernel)) (fun _ h9 => h9) rfl dX0_drawWorld_6 ?_
    refine lv_icmp_ge (tgt := 62) hx hb dX0_drawWorld_9 (by decide) (fun c_9 => ?_) (fun c_9 => ?_)
    · refine lv_iload_n hx hb dX0_drawWorld_62 rfl (lv_at hl 1 rfl) ?_
      exact mu_reti hx hb hr hlocks hP hD hS (by unfold kvX0_drawWorld; rfl) dX0_drawWorld_63
    · exact absurd (nI_le (Nat.le_refl _) (by omega)) c_9
  · intro n hltn ihn H locs ls hI
    obtain ⟨hP, hD, hS, hl⟩ := hI
    refine lv_iload_n hx hb dX0_drawWorld_4 rfl (lv_at hl 2 rfl) ?_
    refine lv_aload_n hx hb dX0_drawWorld_5 rfl (lv_at hl 0 rfl) ?_
    refine va_get (D := D) (ci := 0) (v := .int (nI fn)) (C := RX0) (T := TX0) (N := 8) hx hb hts hin hown hK hP 0 rfl rfl 5 (by decide) (hts (.fieldLink RX0 25 "OddsSampling" "factCount" "I") (by decide +kernel)) (fun _ h9 => h9) rfl dX0_drawWorld_6 ?_
    refine lv_icmp_ge (tgt := 62) hx hb dX0_drawWorld_9 (by decide) (fun c_9 => ?_) (fun c_9 => ?_)
    · exact absurd c_9 (nI_ge hltn (by omega))
    · refine lv_aload_n hx hb dX0_drawWorld_12 rfl (lv_at hl 0 rfl) ?_
      refine mu_calll (va_runV (As := []) (rest := []) ⟨hx, hb, hml, hown, hts⟩ (kX0_draw l D cJ h a1 a2 a3 a4 a5 u d lw uw an fn qn (kl_sds sd n) _) (cwV 0 hts gX0_drawWorld_X0_draw rfl rfl rfl ok_X0_draw ⟨Nat.le_of_ble_eq_true rfl, Nat.le_of_ble_eq_true rfl⟩) ⟨oo_blindM, va_recv hK hP (ci := 0) (q0 := 0) rfl rfl, oo_psM hP hD hK [0, 1, 2, 3, 4, 5] rfl rfl [0] rfl⟩ rfl rfl hl.1 rfl (lv_room (Nat.le_of_ble_eq_true rfl)) dX0_drawWorld_13 ⟨Nat.le_of_ble_eq_true rfl, Nat.le_of_ble_eq_true rfl⟩) hP hD hS hA [0, 1, 2, 3, 4, 5] rfl (oo_fc (oo_fc (oo_fc (oo_fc (oo_fc (oo_fc rfl)))))) (fun H locs hP hD hS => ?_)
      have hP : va_P D vwCl (xW cJ h a1 a2 a3 a4 a5 u d lw uw an (nI fn) (nI qn) (kl_lcg (kl_sds sd n))) H := hP
      have hD : va_D _ (xW cJ h a1 a2 a3 a4 a5 u d lw uw an (nI fn) (nI qn) (kl_lcg (kl_sds sd n))) := hD
      refine lv_lstore_n (lv' := [(3, .long (kvX0_draw (kl_sds sd n))), (0, .ref h), (1, .int (kl_dw u d sd n)), (2, .int (nI n))]) hx hb dX0_drawWorld_16 rfl hl (by decide) rfl (fun ls hl => ?_)
      refine lv_aload_n hx hb dX0_drawWorld_17 rfl (lv_at hl 1 rfl) ?_
      refine va_get (D := D) (ci := 0) (v := .ref a2) (C := RX0) (T := TX0) (N := 8) hx hb hts hin hown hK hP 0 rfl rfl 1 (by decide) (hts (.fieldLink RX0 13 "OddsSampling" "downs" "[J") (by decide +kernel)) (fun _ h9 => h9) rfl dX0_drawWorld_18 ?_
      refine lv_iload_n hx hb dX0_drawWorld_21 rfl (lv_at hl 3 rfl) ?_
      refine ro_calll (va_runS (As := [.ref a2, .int (nI n)]) (rest := []) ⟨hx, hb, hml, hown, hts⟩ (kX0_at l D cJ a2 12 d (nI n) (by omega)) (va_cwS 2 hts gX0_drawWorld_X0_at rfl rfl rfl ok_X0_at ⟨Nat.le_of_ble_eq_true rfl, Nat.le_of_ble_eq_true rfl⟩) ⟨oo_blind, oo_ps hP hK [2] rfl [0] rfl⟩ rfl rfl hl.1 rfl (lv_room (Nat.le_of_ble_eq_true rfl)) dX0_drawWorld_22 ⟨Nat.le_of_ble_eq_true rfl, Nat.le_of_ble_eq_true rfl⟩) hP hS (fun H locs hP hS => ?_)
      refine lv_lstore (lv' := [(5, .long (kvX0_at 12 d (nI n))), (3, .long (kvX0_draw (kl_sds sd n))), (0, .ref h), (1, .int (kl_dw u d sd n)), (2, .int (nI n))]) hx hb dX0_drawWorld_25 hl (by decide) rfl (fun ls hl => ?_)
      refine lv_lload hx hb dX0_drawWorld_27 (lv_at hl 0 rfl) ?_
      refine lv_lconst (v := (0 : Int64)) hx hb dX0_drawWorld_29 (by decide) ?_
      refine W.lcmp hx hb dX0_drawWorld_30 ?_
      refine lv_if_le (tgt := 56) hx hb dX0_drawWorld_31 (by decide) (fun c_31 => ?_) (fun c_31 => ?_)
      · refine lv_iinc (v := nI (n + 1)) (lv' := [(2, .int (nI (n + 1))), (5, .long (kvX0_at 12 d (nI n))), (3, .long (kvX0_draw (kl_sds sd n))), (0, .ref h), (1, .int (kl_dw u d sd n))]) hx hb dX0_drawWorld_56 hl (k := 4) rfl (oo_inc n 1) (by decide) rfl (fun ls hl => ?_)
        refine lv_goto (tgt := 4) hx hb dX0_drawWorld_59 (by decide) ?_
        have hl : lv_has ls 7 [(0, .ref h), (1, .int (kl_dw u d sd n)), (2, .int (nI (n + 1)))] := lv_sub hl [3, 4, 0] rfl
        have hl := Eq.mp (congrArg (fun z9 => lv_has ls 7 [(0, .ref h), (1, .int z9), (2, .int (nI (n + 1)))]) (show kl_dw u d sd n = kl_dw u d sd (n + 1) from (by first | (simp only [kl_dw, kl_sds]; done) | (simp only [kl_dw, kl_sds]; rw [if_pos c_31])))) hl
        have hP := Eq.mp (congrArg (fun z9 => va_P D vwCl (xW cJ h a1 a2 a3 a4 a5 u d lw uw an (nI fn) (nI qn) z9) H) (show kl_lcg (kl_sds sd n) = kl_sds sd (n + 1) from (by first | (simp only [kl_dw, kl_sds]; done) | (simp only [kl_dw, kl_sds]; rw [if_pos c_31])))) hP
        have hP : va_P D vwCl (xW cJ h a1 a2 a3 a4 a5 u d lw uw an (nI fn) (nI qn) (kl_sds sd (n + 1))) H := hP
        have hD : va_D _ (xW cJ h a1 a2 a3 a4 a5 u d lw uw an (nI fn) (nI qn) (kl_sds sd (n + 1))) := oo_Dre hD (oo_fc (oo_fc (oo_fc (oo_fc (oo_fc (oo_fc rfl))))))
        exact ihn _ _ _ ⟨hP, hD, hS, hl⟩
      · refine lv_lload_n hx hb dX0_drawWorld_34 rfl (lv_at hl 1 rfl) ?_
        refine lv_lload hx hb dX0_drawWorld_35 (lv_at hl 0 rfl) ?_
        refine lv_lrem hx hb dX0_drawWorld_37 (oo_nz c_31) ?_
        refine lv_aload_n hx hb dX0_drawWorld_38 rfl (lv_at hl 2 rfl) ?_
        refine va_get (D := D) (ci := 0) (v := .ref a1) (C := RX0) (T := TX0) (N := 8) hx hb hts hin hown hK hP 0 rfl rfl 0 (by decide) (hts (.fieldLink RX0 9 "OddsSampling" "ups" "[J") (by decide +kernel)) (fun _ h9 => h9) rfl dX0_drawWorld_39 ?_
        refine lv_iload_n hx hb dX0_drawWorld_42 rfl (lv_at hl 4 rfl) ?_
        refine ro_calll (va_runS (As := [.ref a1, .int (nI n)]) (rest := [.long ((kvX0_draw (kl_sds sd n)) - (kvX0_draw (kl_sds sd n)) / (kvX0_at 12 d (nI n)) * (kvX0_at 12 d (nI n)))]) ⟨hx, hb, hml, hown, hts⟩ (kX0_at l D cJ a1 12 u (nI n) (by omega)) (va_cwS 2 hts gX0_drawWorld_X0_at rfl rfl rfl ok_X0_at ⟨Nat.le_of_ble_eq_true rfl, Nat.le_of_ble_eq_true rfl⟩) ⟨oo_blind, oo_ps hP hK [1] rfl [0] rfl⟩ rfl rfl hl.1 rfl (lv_room (Nat.le_of_ble_eq_true rfl)) dX0_drawWorld_43 ⟨Nat.le_of_ble_eq_true rfl, Nat.le_of_ble_eq_true rfl⟩) hP hS (fun H locs hP hS => ?_)
        refine W.lcmp hx hb dX0_drawWorld_46 ?_
        refine lv_if_ge (tgt := 56) hx hb dX0_drawWorld_47 (by decide) (fun c_47 => ?_) (fun c_47 => ?_)
        · refine lv_iinc (v := nI (n + 1)) (lv' := [(2, .int (nI (n + 1))), (5, .long (kvX0_at 12 d (nI n))), (3, .long (kvX0_draw (kl_sds sd n))), (0, .ref h), (1, .int (kl_dw u d sd n))]) hx hb dX0_drawWorld_56 hl (k := 4) rfl (oo_inc n 1) (by decide) rfl (fun ls hl => ?_)
          refine lv_goto (tgt := 4) hx hb dX0_drawWorld_59 (by decide) ?_
          have hl : lv_has ls 7 [(0, .ref h), (1, .int (kl_dw u d sd n)), (2, .int (nI (n + 1)))] := lv_sub hl [3, 4, 0] rfl
          have hl := Eq.mp (congrArg (fun z9 => lv_has ls 7 [(0, .ref h), (1, .int z9), (2, .int (nI (n + 1)))]) (show kl_dw u d sd n = kl_dw u d sd (n + 1) from (by first | (simp only [kl_dw, kl_sds]; done) | (simp only [kl_dw, kl_sds]; rw [if_neg c_31, if_pos c_47])))) hl
          have hP := Eq.mp (congrArg (fun z9 => va_P D vwCl (xW cJ h a1 a2 a3 a4 a5 u d lw uw an (nI fn) (nI qn) z9) H) (show kl_lcg (kl_sds sd n) = kl_sds sd (n + 1) from (by first | (simp only [kl_dw, kl_sds]; done) | (simp only [kl_dw, kl_sds]; rw [if_neg c_31, if_pos c_47])))) hP
          have hP : va_P D vwCl (xW cJ h a1 a2 a3 a4 a5 u d lw uw an (nI fn) (nI qn) (kl_sds sd (n + 1))) H := hP
          have hD : va_D _ (xW cJ h a1 a2 a3 a4 a5 u d lw uw an (nI fn) (nI qn) (kl_sds sd (n + 1))) := oo_Dre hD (oo_fc (oo_fc (oo_fc (oo_fc (oo_fc (oo_fc rfl))))))
          exact ihn _ _ _ ⟨hP, hD, hS, hl⟩
        · refine lv_iload_n hx hb dX0_drawWorld_50 rfl (lv_at hl 3 rfl) ?_
          refine lv_iconst (v := (1 : Int32)) hx hb dX0_drawWorld_51 (by decide) ?_
          refine lv_iload_n hx hb dX0_drawWorld_52 rfl (lv_at hl 4 rfl) ?_
          refine lv_ishl hx hb dX0_drawWorld_53 ?_
          refine lv_ior hx hb dX0_drawWorld_54 ?_
          refine lv_istore_n (lv' := [(1, .int ((kl_dw u d sd n) ||| ((1 : Int32) <<< ((nI n) &&& 31)))), (5, .long (kvX0_at 12 d (nI n))), (3, .long (kvX0_draw (kl_sds sd n))), (0, .ref h), (2, .int (nI n))]) hx hb dX0_drawWorld_55 rfl hl (by decide) rfl (fun ls hl => ?_)
          refine lv_iinc (v := nI (n + 1)) (lv' := [(2, .int (nI (n + 1))), (1, .int ((kl_dw u d sd n) ||| ((1 : Int32) <<< ((nI n) &&& 31)))), (5, .long (kvX0_at 12 d (nI n))), (3, .long (kvX0_draw (kl_sds sd n))), (0, .ref h)]) hx hb dX0_drawWorld_56 hl (k := 4) rfl (oo_inc n 1) (by decide) rfl (fun ls hl => ?_)
          refine lv_goto (tgt := 4) hx hb dX0_drawWorld_59 (by decide) ?_
          have hl : lv_has ls 7 [(0, .ref h), (1, .int ((kl_dw u d sd n) ||| ((1 : Int32) <<< ((nI n) &&& 31)))), (2, .int (nI (n + 1)))] := lv_sub hl [4, 1, 0] rfl
          have hl := Eq.mp (congrArg (fun z9 => lv_has ls 7 [(0, .ref h), (1, .int z9), (2, .int (nI (n + 1)))]) (show (kl_dw u d sd n) ||| ((1 : Int32) <<< ((nI n) &&& 31)) = kl_dw u d sd (n + 1) from (by first | (simp only [kl_dw, kl_sds]; done) | (simp only [kl_dw, kl_sds]; rw [if_neg c_31, if_neg c_47])))) hl
          have hP := Eq.mp (congrArg (fun z9 => va_P D vwCl (xW cJ h a1 a2 a3 a4 a5 u d lw uw an (nI fn) (nI qn) z9) H) (show kl_lcg (kl_sds sd n) = kl_sds sd (n + 1) from (by first | (simp only [kl_dw, kl_sds]; done) | (simp only [kl_dw, kl_sds]; rw [if_neg c_31, if_neg c_47])))) hP
          have hP : va_P D vwCl (xW cJ h a1 a2 a3 a4 a5 u d lw uw an (nI fn) (nI qn) (kl_sds sd (n + 1))) H := hP
          have hD : va_D _ (xW cJ h a1 a2 a3 a4 a5 u d lw uw an (nI fn) (nI qn) (kl_sds sd (n + 1))) := oo_Dre hD (oo_fc (oo_fc (oo_fc (oo_fc (oo_fc (oo_fc rfl))))))
          exact ihn _ _ _ ⟨hP, hD, hS, hl⟩
def kl_samS (sd : Int64) (fn : Nat) : Nat → Int64
  | 0 => sd
  | n + 1 => kl_sds (kl_samS sd fn n) fn
def kl_samC (u d an : Nat → Int64) (fn qn : Nat) (q : Int32) (sd : Int64) : Nat → Int32
  | 0 => 0
  | n + 1 => if kvX0_isTrue an qn q (kvX0_drawWorld u d fn (kl_samS sd fn n)) = 0 then kl_samC u d an fn qn q sd n else kl_samC u d an fn qn q sd n + 1
theorem oo_cnt {x : Int32} (h : ¬ x < 0) : x = nI x.toNatClampNeg := by
  obtain ⟨j, hj, rfl⟩ := nI_of h
  rw [nI_clamp hj]
theorem oo_cntL {x : Int32} {M : Nat} (hM : M < 2 ^ 31) (h : ¬ x < 0) (h2 : x ≤ nI M) : x.toNatClampNeg ≤ M := by
  obtain ⟨j, hj, rfl⟩ := nI_of h
  rw [nI_clamp hj]
  exact (nI_leI hj hM).mp h2
theorem ok_X0_sample : yX0_sample.cls = RX0 ∧ yX0_sample.cls ≠ "java/lang/invoke/MethodHandle" ∧ yX0_sample.cls ≠ "java/lang/invoke/VarHandle" ∧ (parseMethodDescriptor yX0_sample.desc).map (fun d => d.parameters.length) = some 3 := by decide +kernel
def kvX0_sample (u : Nat → Int64) (d : Nat → Int64) (an : Nat → Int64) (fn : Nat) (qn : Nat) (q : Int32) (sd0 : Int64) (ws : Int32) : Int32 := if (kvX0_isQuestion qn q) = 0 then (-1 : Int32) else (if ws < 0 then (-1 : Int32) else (if ws ≤ (nI 200) then (kl_samC u d an fn qn q (sd0 &&& (281474976710655 : Int64)) ws.toNatClampNeg) else (-1 : Int32)))
def kvX0_sample_sd (fn : Nat) (qn : Nat) (sd : Int64) (q : Int32) (sd0 : Int64) (ws : Int32) : Int64 := if (kvX0_isQuestion qn q) = 0 then sd else (if ws < 0 then sd else (if ws ≤ (nI 200) then (kl_samS (sd0 &&& (281474976710655 : Int64)) fn ws.toNatClampNeg) else sd))
set_option maxHeartbeats 4000000 in
set_option maxRecDepth 100000 in
theorem kX0_sample (l : Launch) (D : va_G) (cJ : ClassId) (h a1 a2 a3 a4 a5 : Nat) (u d lw uw an : Nat → Int64) (fn qn : Nat) (sd : Int64) (q : Int32) (sd0 : Int64) (ws : Int32) (hfn : fn ≤ 12) : MuI l yX0_sample wsX0_sample ({ frames := 3, cells := 0, slots := 0, locals := 67 } : Room) [.ref h, .int q, .long sd0, .int ws] D (xW cJ h a1 a2 a3 a4 a5 u d lw uw an (nI fn) (nI qn) sd) [(cJ, .long)] (xW cJ h a1 a2 a3 a4 a5 u d lw uw an (nI fn) (nI qn) (kvX0_sample_sd fn qn sd q sd0 ws)) (kvX0_sample u d an fn qn q sd0 ws) := by
  intro sz
  refine oo_head (C := RX0) (cc := cX0_sample) (maxL := 7) (ret := (some .int)) (by decide) rfl rfl (Nat.le_of_ble_eq_true rfl) ?_
  intro p e s m below meth c hx hb hr hlocks hml hown hnm hts hpre ls hl
  have hl : lv_has ls 7 [(0, .ref h), (1, .int q), (2, .long sd0), (4, .int ws)] := hl
  obtain ⟨rfl, hP, hK, hD0⟩ := hpre
  have hD := hD0.self (sz := s.heap.size)
  have hA := oo_A (xW cJ h a1 a2 a3 a4 a5 u d lw uw an (nI fn) (nI qn) sd) s
  have hS : va_S (va_A (xW cJ h a1 a2 a3 a4 a5 u d lw uw an (nI fn) (nI qn) sd) s.heap.size) s.heap s.heap [] := va_S.rf
  have hin : ∀ w ∈ wsX00, w ∈ wsX0_sample := fun w h => List.mem_cons_of_mem _ (List.mem_append_right _ h)
  refine lv_aload_n hx hb dX0_sample_0 rfl (lv_at hl 0 rfl) ?_
  refine lv_iload_n hx hb dX0_sample_1 rfl (lv_at hl 1 rfl) ?_
  refine ro_calli (va_runV (As := [.int q]) (rest := []) ⟨hx, hb, hml, hown, hts⟩ (kX0_isQuestion l D cJ h a1 a2 a3 a4 a5 u d lw uw an fn qn sd q) (cwV 1 hts gX0_sample_X0_isQuestion rfl rfl rfl ok_X0_isQuestion ⟨Nat.le_of_ble_eq_true rfl, Nat.le_of_ble_eq_true rfl⟩) ⟨oo_blind, va_recv hK hP (ci := 0) (q0 := 0) rfl rfl, oo_ps hP hK [0, 1, 2, 3, 4, 5] rfl [0] rfl⟩ rfl rfl hl.1 rfl (lv_room (Nat.le_of_ble_eq_true rfl)) dX0_sample_2 ⟨Nat.le_of_ble_eq_true rfl, Nat.le_of_ble_eq_true rfl⟩) hP hS (fun H locs hP hS => ?_)
  refine lv_if_eq (tgt := 21) hx hb dX0_sample_5 (by decide) (fun c_5 => ?_) (fun c_5 => ?_)
  · refine lv_iconst (v := (-1 : Int32)) hx hb dX0_sample_21 (by decide) ?_
    have hP := Eq.mp (congrArg (fun z9 => va_P D vwCl (xW cJ h a1 a2 a3 a4 a5 u d lw uw an (nI fn) (nI qn) z9) H) (show sd = kvX0_sample_sd fn qn sd q sd0 ws from (by unfold kvX0_sample_sd; rw [if_pos c_5]))) hP
    have hP : va_P D vwCl (xW cJ h a1 a2 a3 a4 a5 u d lw uw an (nI fn) (nI qn) (kvX0_sample_sd fn qn sd q sd0 ws)) H := hP
    have hD : va_D _ (xW cJ h a1 a2 a3 a4 a5 u d lw uw an (nI fn) (nI qn) (kvX0_sample_sd fn qn sd q sd0 ws)) := oo_Dre hD (oo_fc (oo_fc (oo_fc (oo_fc (oo_fc (oo_fc rfl))))))
    exact mu_reti hx hb hr hlocks hP hD hS (by unfold kvX0_sample; rw [if_pos c_5]) dX0_sample_22
  · refine lv_iload hx hb dX0_sample_8 (lv_at hl 3 rfl) ?_
    refine lv_if_lt (tgt := 21) hx hb dX0_sample_10 (by decide) (fun c_10 => ?_) (fun c_10 => ?_)
    · refine lv_iconst (v := (-1 : Int32)) hx hb dX0_sample_21 (by decide) ?_
      have hP := Eq.mp (congrArg (fun z9 => va_P D vwCl (xW cJ h a1 a2 a3 a4 a5 u d lw uw an (nI fn) (nI qn) z9) H) (show sd = kvX0_sample_sd fn qn sd q sd0 ws from (by unfold kvX0_sample_sd; rw [if_neg c_5, if_pos c_10]))) hP
      have hP : va_P D vwCl (xW cJ h a1 a2 a3 a4 a5 u d lw uw an (nI fn) (nI qn) (kvX0_sample_sd fn qn sd q sd0 ws)) H := hP
      have hD : va_D _ (xW cJ h a1 a2 a3 a4 a5 u d lw uw an (nI fn) (nI qn) (kvX0_sample_sd fn qn sd q sd0 ws)) := oo_Dre hD (oo_fc (oo_fc (oo_fc (oo_fc (oo_fc (oo_fc rfl))))))
      exact mu_reti hx hb hr hlocks hP hD hS (by unfold kvX0_sample; rw [if_neg c_5, if_pos c_10]) dX0_sample_22
    · refine lv_iload hx hb dX0_sample_13 (lv_at hl 3 rfl) ?_
      refine lv_sipush (v := nI 200) hx hb dX0_sample_15 (by decide) ?_
      refine lv_icmp_le (tgt := 23) hx hb dX0_sample_18 (by decide) (fun c_18 => ?_) (fun c_18 => ?_)
      · refine lv_aload_n hx hb dX0_sample_23 rfl (lv_at hl 0 rfl) ?_
        refine lv_lload_n hx hb dX0_sample_24 rfl (lv_at hl 2 rfl) ?_
        refine lv_ldc2 hx hb hown (hts (.constantLong RX0 141 (281474976710655)) (by decide +kernel)) dX0_sample_25 ?_
        refine lv_land hx hb dX0_sample_28 ?_
        refine va_put (D := D) (ci := 0) (v := .long (sd0 &&& (281474976710655 : Int64))) (ty := .long) (C := RX0) (T := TX0) (N := 8) hx hb hts hin tyX0 tyX0_ok nmX0 hown hK hP hD hS 0 rfl rfl 7 (by decide) (hts (.fieldLink RX0 32 "OddsSampling" "lastSeed" "J") (by decide +kernel)) (fun _ h9 => h9) rfl (by decide +kernel) rfl rfl (Nat.le_of_ble_eq_true rfl) dX0_sample_29 (fun H locs hP hD hS => ?_)
        have hP : va_P D vwCl (xW cJ h a1 a2 a3 a4 a5 u d lw uw an (nI fn) (nI qn) (sd0 &&& (281474976710655 : Int64))) H := hP
        have hD : va_D _ (xW cJ h a1 a2 a3 a4 a5 u d lw uw an (nI fn) (nI qn) (sd0 &&& (281474976710655 : Int64))) := hD
        have hwn : ws.toNatClampNeg ≤ 200 := oo_cntL (by omega) c_10 c_18
        refine lv_iconst (v := (0 : Int32)) hx hb dX0_sample_32 (by decide) ?_
        refine lv_istore (lv' := [(5, .int (0 : Int32)), (0, .ref h), (1, .int q), (2, .long sd0), (4, .int ws)]) hx hb dX0_sample_33 hl (by decide) rfl (fun ls hl => ?_)
        refine lv_iconst (v := nI 0) hx hb dX0_sample_35 (by decide) ?_
        refine lv_istore (lv' := [(6, .int (nI 0)), (5, .int (0 : Int32)), (0, .ref h), (1, .int q), (2, .long sd0), (4, .int ws)]) hx hb dX0_sample_36 hl (by decide) rfl (fun ls hl => ?_)
        have hl : lv_has ls 7 [(0, .ref h), (1, .int q), (4, .int ws), (5, .int (0 : Int32)), (6, .int (nI 0))] := lv_sub hl [2, 3, 5, 1, 0] rfl
        have hl := Eq.mp (congrArg (fun z9 => lv_has ls 7 [(0, .ref h), (1, .int q), (4, .int ws), (5, .int z9), (6, .int (nI 0))]) (show (0 : Int32) = kl_samC u d an fn qn q (sd0 &&& (281474976710655 : Int64)) 0 from (by first | (simp only [kl_samS, kl_samC]; done) | (simp only [kl_samS, kl_samC]; rw [if_neg c_5, if_neg c_10, if_pos c_18])))) hl
        have hP := Eq.mp (congrArg (fun z9 => va_P D vwCl (xW cJ h a1 a2 a3 a4 a5 u d lw uw an (nI fn) (nI qn) z9) H) (show sd0 &&& (281474976710655 : Int64) = kl_samS (sd0 &&& (281474976710655 : Int64)) fn 0 from (by first | (simp only [kl_samS, kl_samC]; done) | (simp only [kl_samS, kl_samC]; rw [if_neg c_5, if_neg c_10, if_pos c_18])))) hP
        have hP : va_P D vwCl (xW cJ h a1 a2 a3 a4 a5 u d lw uw an (nI fn) (nI qn) (kl_samS (sd0 &&& (281474976710655 : Int64)) fn 0)) H := hP
        have hD : va_D _ (xW cJ h a1 a2 a3 a4 a5 u d lw uw an (nI fn) (nI qn) (kl_samS (sd0 &&& (281474976710655 : Int64)) fn 0)) := oo_Dre hD (oo_fc (oo_fc (oo_fc (oo_fc (oo_fc (oo_fc rfl))))))
        refine oo_loop (N := ws.toNatClampNeg) (fun n H locs ls => va_P D vwCl (xW cJ h a1 a2 a3 a4 a5 u d lw uw an (nI fn) (nI qn) (kl_samS (sd0 &&& (281474976710655 : Int64)) fn n)) H ∧ va_D (va_A (xW cJ h a1 a2 a3 a4 a5 u d lw uw an (nI fn) (nI qn) sd) s.heap.size) (xW cJ h a1 a2 a3 a4 a5 u d lw uw an (nI fn) (nI qn) (kl_samS (sd0 &&& (281474976710655 : Int64)) fn n)) ∧ va_S (va_A (xW cJ h a1 a2 a3 a4 a5 u d lw uw an (nI fn) (nI qn) sd) s.heap.size) s.heap H locs ∧ lv_has ls 7 [(0, .ref h), (1, .int q), (4, .int ws), (5, .int (kl_samC u d an fn qn q (sd0 &&& (281474976710655 : Int64)) n)), (6, .int (nI n))]) ?_ ?_ 0 (Nat.zero_le _) ⟨hP, hD, hS, hl⟩
        · intro H locs ls hI
          obtain ⟨hP, hD, hS, hl⟩ := hI
          refine lv_iload hx hb dX0_sample_38 (lv_at hl 4 rfl) ?_
          refine lv_iload hx hb dX0_sample_40 (lv_at hl 2 rfl) ?_
          refine oo_topI (y := nI ws.toNatClampNeg) (oo_cnt c_10) ?_
          refine lv_icmp_ge (tgt := 66) hx hb dX0_sample_42 (by decide) (fun c_42 => ?_) (fun c_42 => ?_)
          · refine lv_iload hx hb dX0_sample_66 (lv_at hl 3 rfl) ?_
            have hP := Eq.mp (congrArg (fun z9 => va_P D vwCl (xW cJ h a1 a2 a3 a4 a5 u d lw uw an (nI fn) (nI qn) z9) H) (show kl_samS (sd0 &&& (281474976710655 : Int64)) fn ws.toNatClampNeg = kvX0_sample_sd fn qn sd q sd0 ws from (by unfold kvX0_sample_sd; rw [if_neg c_5, if_neg c_10, if_pos c_18]))) hP
            have hP : va_P D vwCl (xW cJ h a1 a2 a3 a4 a5 u d lw uw an (nI fn) (nI qn) (kvX0_sample_sd fn qn sd q sd0 ws)) H := hP
            have hD : va_D _ (xW cJ h a1 a2 a3 a4 a5 u d lw uw an (nI fn) (nI qn) (kvX0_sample_sd fn qn sd q sd0 ws)) := oo_Dre hD (oo_fc (oo_fc (oo_fc (oo_fc (oo_fc (oo_fc rfl))))))
            exact mu_reti hx hb hr hlocks hP hD hS (by unfold kvX0_sample; rw [if_neg c_5, if_neg c_10, if_pos c_18]) dX0_sample_68
          · exact absurd (nI_le (Nat.le_refl _) (by omega)) c_42
        · intro n hltn ihn H locs ls hI
          obtain ⟨hP, hD, hS, hl⟩ := hI
          refine lv_iload hx hb dX0_sample_38 (lv_at hl 4 rfl) ?_
          refine lv_iload hx hb dX0_sample_40 (lv_at hl 2 rfl) ?_
          refine oo_topI (y := nI ws.toNatClampNeg) (oo_cnt c_10) ?_
          refine lv_icmp_ge (tgt := 66) hx hb dX0_sample_42 (by decide) (fun c_42 => ?_) (fun c_42 => ?_)
          · exact absurd c_42 (nI_ge hltn (by omega))
          · refine lv_aload_n hx hb dX0_sample_45 rfl (lv_at hl 0 rfl) ?_
            refine lv_iload_n hx hb dX0_sample_46 rfl (lv_at hl 1 rfl) ?_
            refine lv_aload_n hx hb dX0_sample_47 rfl (lv_at hl 0 rfl) ?_
            refine mu_calli (va_runV (As := []) (rest := [.int q, .ref h]) ⟨hx, hb, hml, hown, hts⟩ (kX0_drawWorld l D cJ h a1 a2 a3 a4 a5 u d lw uw an fn qn (kl_samS (sd0 &&& (281474976710655 : Int64)) fn n) hfn _) (cwV 0 hts gX0_sample_X0_drawWorld rfl rfl rfl ok_X0_drawWorld ⟨Nat.le_of_ble_eq_true rfl, Nat.le_of_ble_eq_true rfl⟩) ⟨oo_blindM, va_recv hK hP (ci := 0) (q0 := 0) rfl rfl, oo_psM hP hD hK [0, 1, 2, 3, 4, 5] rfl rfl [0] rfl⟩ rfl rfl hl.1 rfl (lv_room (Nat.le_of_ble_eq_true rfl)) dX0_sample_48 ⟨Nat.le_of_ble_eq_true rfl, Nat.le_of_ble_eq_true rfl⟩) hP hD hS hA [0, 1, 2, 3, 4, 5] rfl (oo_fc (oo_fc (oo_fc (oo_fc (oo_fc (oo_fc rfl)))))) (fun H locs hP hD hS => ?_)
            have hP : va_P D vwCl (xW cJ h a1 a2 a3 a4 a5 u d lw uw an (nI fn) (nI qn) (kl_sds (kl_samS (sd0 &&& (281474976710655 : Int64)) fn n) fn)) H := hP
            have hD : va_D _ (xW cJ h a1 a2 a3 a4 a5 u d lw uw an (nI fn) (nI qn) (kl_sds (kl_samS (sd0 &&& (281474976710655 : Int64)) fn n) fn)) := hD
            refine ro_calli (va_runV (As := [.int q, .int (kvX0_drawWorld u d fn (kl_samS (sd0 &&& (281474976710655 : Int64)) fn n))]) (rest := []) ⟨hx, hb, hml, hown, hts⟩ (kX0_isTrue l D cJ h a1 a2 a3 a4 a5 u d lw uw an fn qn (kl_sds (kl_samS (sd0 &&& (281474976710655 : Int64)) fn n) fn) q (kvX0_drawWorld u d fn (kl_samS (sd0 &&& (281474976710655 : Int64)) fn n))) (cwV 2 hts gX0_sample_X0_isTrue rfl rfl rfl ok_X0_isTrue ⟨Nat.le_of_ble_eq_true rfl, Nat.le_of_ble_eq_true rfl⟩) ⟨oo_blind, va_recv hK hP (ci := 0) (q0 := 0) rfl rfl, oo_ps hP hK [0, 1, 2, 3, 4, 5] rfl [0] rfl⟩ rfl rfl hl.1 rfl (lv_room (Nat.le_of_ble_eq_true rfl)) dX0_sample_51 ⟨Nat.le_of_ble_eq_true rfl, Nat.le_of_ble_eq_true rfl⟩) hP hS (fun H locs hP hS => ?_)
            refine lv_if_eq (tgt := 60) hx hb dX0_sample_54 (by decide) (fun c_54 => ?_) (fun c_54 => ?_)
            · refine lv_iinc (v := nI (n + 1)) (lv' := [(6, .int (nI (n + 1))), (0, .ref h), (1, .int q), (4, .int ws), (5, .int (kl_samC u d an fn qn q (sd0 &&& (281474976710655 : Int64)) n))]) hx hb dX0_sample_60 hl (k := 4) rfl (oo_inc n 1) (by decide) rfl (fun ls hl => ?_)
              refine lv_goto (tgt := 38) hx hb dX0_sample_63 (by decide) ?_
              have hl : lv_has ls 7 [(0, .ref h), (1, .int q), (4, .int ws), (5, .int (kl_samC u d an fn qn q (sd0 &&& (281474976710655 : Int64)) n)), (6, .int (nI (n + 1)))] := lv_sub hl [1, 2, 3, 4, 0] rfl
              have hl := Eq.mp (congrArg (fun z9 => lv_has ls 7 [(0, .ref h), (1, .int q), (4, .int ws), (5, .int z9), (6, .int (nI (n + 1)))]) (show kl_samC u d an fn qn q (sd0 &&& (281474976710655 : Int64)) n = kl_samC u d an fn qn q (sd0 &&& (281474976710655 : Int64)) (n + 1) from (by first | (simp only [kl_samS, kl_samC]; done) | (simp only [kl_samS, kl_samC]; rw [if_pos c_54])))) hl
              have hP := Eq.mp (congrArg (fun z9 => va_P D vwCl (xW cJ h a1 a2 a3 a4 a5 u d lw uw an (nI fn) (nI qn) z9) H) (show kl_sds (kl_samS (sd0 &&& (281474976710655 : Int64)) fn n) fn = kl_samS (sd0 &&& (281474976710655 : Int64)) fn (n + 1) from (by first | (simp only [kl_samS, kl_samC]; done) | (simp only [kl_samS, kl_samC]; rw [if_pos c_54])))) hP
              have hP : va_P D vwCl (xW cJ h a1 a2 a3 a4 a5 u d lw uw an (nI fn) (nI qn) (kl_samS (sd0 &&& (281474976710655 : Int64)) fn (n + 1))) H := hP
              have hD : va_D _ (xW cJ h a1 a2 a3 a4 a5 u d lw uw an (nI fn) (nI qn) (kl_samS (sd0 &&& (281474976710655 : Int64)) fn (n + 1))) := oo_Dre hD (oo_fc (oo_fc (oo_fc (oo_fc (oo_fc (oo_fc rfl))))))
              exact ihn _ _ _ ⟨hP, hD, hS, hl⟩
            · refine lv_iinc (v := (kl_samC u d an fn qn q (sd0 &&& (281474976710655 : Int64)) n) + 1) (lv' := [(5, .int ((kl_samC u d an fn qn q (sd0 &&& (281474976710655 : Int64)) n) + 1)), (0, .ref h), (1, .int q), (4, .int ws), (6, .int (nI n))]) hx hb dX0_sample_57 hl (k := 3) rfl rfl (by decide) rfl (fun ls hl => ?_)
              refine lv_iinc (v := nI (n + 1)) (lv' := [(6, .int (nI (n + 1))), (5, .int ((kl_samC u d an fn qn q (sd0 &&& (281474976710655 : Int64)) n) + 1)), (0, .ref h), (1, .int q), (4, .int ws)]) hx hb dX0_sample_60 hl (k := 4) rfl (oo_inc n 1) (by decide) rfl (fun ls hl => ?_)
              refine lv_goto (tgt := 38) hx hb dX0_sample_63 (by decide) ?_
              have hl : lv_has ls 7 [(0, .ref h), (1, .int q), (4, .int ws), (5, .int ((kl_samC u d an fn qn q (sd0 &&& (281474976710655 : Int64)) n) + 1)), (6, .int (nI (n + 1)))] := lv_sub hl [2, 3, 4, 1, 0] rfl
              have hl := Eq.mp (congrArg (fun z9 => lv_has ls 7 [(0, .ref h), (1, .int q), (4, .int ws), (5, .int z9), (6, .int (nI (n + 1)))]) (show (kl_samC u d an fn qn q (sd0 &&& (281474976710655 : Int64)) n) + 1 = kl_samC u d an fn qn q (sd0 &&& (281474976710655 : Int64)) (n + 1) from (by first | (simp only [kl_samS, kl_samC]; done) | (simp only [kl_samS, kl_samC]; rw [if_neg c_54])))) hl
              have hP := Eq.mp (congrArg (fun z9 => va_P D vwCl (xW cJ h a1 a2 a3 a4 a5 u d lw uw an (nI fn) (nI qn) z9) H) (show kl_sds (kl_samS (sd0 &&& (281474976710655 : Int64)) fn n) fn = kl_samS (sd0 &&& (281474976710655 : Int64)) fn (n + 1) from (by first | (simp only [kl_samS, kl_samC]; done) | (simp only [kl_samS, kl_samC]; rw [if_neg c_54])))) hP
              have hP : va_P D vwCl (xW cJ h a1 a2 a3 a4 a5 u d lw uw an (nI fn) (nI qn) (kl_samS (sd0 &&& (281474976710655 : Int64)) fn (n + 1))) H := hP
              have hD : va_D _ (xW cJ h a1 a2 a3 a4 a5 u d lw uw an (nI fn) (nI qn) (kl_samS (sd0 &&& (281474976710655 : Int64)) fn (n + 1))) := oo_Dre hD (oo_fc (oo_fc (oo_fc (oo_fc (oo_fc (oo_fc rfl))))))
              exact ihn _ _ _ ⟨hP, hD, hS, hl⟩
      · refine lv_iconst (v := (-1 : Int32)) hx hb dX0_sample_21 (by decide) ?_
        have hP := Eq.mp (congrArg (fun z9 => va_P D vwCl (xW cJ h a1 a2 a3 a4 a5 u d lw uw an (nI fn) (nI qn) z9) H) (show sd = kvX0_sample_sd fn qn sd q sd0 ws from (by unfold kvX0_sample_sd; rw [if_neg c_5, if_neg c_10, if_neg c_18]))) hP
        have hP : va_P D vwCl (xW cJ h a1 a2 a3 a4 a5 u d lw uw an (nI fn) (nI qn) (kvX0_sample_sd fn qn sd q sd0 ws)) H := hP
        have hD : va_D _ (xW cJ h a1 a2 a3 a4 a5 u d lw uw an (nI fn) (nI qn) (kvX0_sample_sd fn qn sd q sd0 ws)) := oo_Dre hD (oo_fc (oo_fc (oo_fc (oo_fc (oo_fc (oo_fc rfl))))))
        exact mu_reti hx hb hr hlocks hP hD hS (by unfold kvX0_sample; rw [if_neg c_5, if_neg c_10, if_neg c_18]) dX0_sample_22
theorem ok_X0_seed : yX0_seed.cls = RX0 ∧ yX0_seed.cls ≠ "java/lang/invoke/MethodHandle" ∧ yX0_seed.cls ≠ "java/lang/invoke/VarHandle" ∧ (parseMethodDescriptor yX0_seed.desc).map (fun d => d.parameters.length) = some 0 := by decide +kernel
def kvX0_seed (sd : Int64) : Int64 := sd
set_option maxHeartbeats 4000000 in
set_option maxRecDepth 100000 in
theorem kX0_seed (l : Launch) (D : va_G) (cJ : ClassId) (h a1 a2 a3 a4 a5 : Nat) (u d lw uw an : Nat → Int64) (fn qn : Nat) (sd : Int64)  : RoL l yX0_seed wsX0_seed ({ frames := 0, cells := 0, slots := 0, locals := 0 } : Room) [.ref h] D (xW cJ h a1 a2 a3 a4 a5 u d lw uw an (nI fn) (nI qn) sd) [(cJ, .long)] (kvX0_seed sd) := by
  refine oo_head (C := RX0) (cc := cX0_seed) (maxL := 1) (ret := (some .long)) (by decide) rfl rfl (Nat.le_of_ble_eq_true rfl) ?_
  intro p e s m below meth c hx hb hr hlocks hml hown hnm hts hpre ls hl
  have hl : lv_has ls 1 [(0, .ref h)] := hl
  obtain ⟨hP, hK⟩ := hpre
  have hS : va_S oo_N s.heap s.heap [] := va_S.rf
  have hin : ∀ w ∈ wsX00, w ∈ wsX0_seed := fun w h => List.mem_cons_of_mem _ (List.mem_append_right _ h)
  refine lv_aload_n hx hb dX0_seed_0 rfl (lv_at hl 0 rfl) ?_
  refine va_get (D := D) (ci := 0) (v := .long sd) (C := RX0) (T := TX0) (N := 8) hx hb hts hin hown hK hP 0 rfl rfl 7 (by decide) (hts (.fieldLink RX0 32 "OddsSampling" "lastSeed" "J") (by decide +kernel)) (fun _ h9 => h9) rfl dX0_seed_1 ?_
  exact ro_retl hx hb hr hlocks hS (by unfold kvX0_seed; rfl) dX0_seed_4
theorem ok_X0_questions : yX0_questions.cls = RX0 ∧ yX0_questions.cls ≠ "java/lang/invoke/MethodHandle" ∧ yX0_questions.cls ≠ "java/lang/invoke/VarHandle" ∧ (parseMethodDescriptor yX0_questions.desc).map (fun d => d.parameters.length) = some 0 := by decide +kernel
def kvX0_questions (qn : Nat) : Int32 := nI qn
set_option maxHeartbeats 4000000 in
set_option maxRecDepth 100000 in
theorem kX0_questions (l : Launch) (D : va_G) (cJ : ClassId) (h a1 a2 a3 a4 a5 : Nat) (u d lw uw an : Nat → Int64) (fn qn : Nat) (sd : Int64)  : RoI l yX0_questions wsX0_questions ({ frames := 0, cells := 0, slots := 0, locals := 0 } : Room) [.ref h] D (xW cJ h a1 a2 a3 a4 a5 u d lw uw an (nI fn) (nI qn) sd) [(cJ, .long)] (kvX0_questions qn) := by
  refine oo_head (C := RX0) (cc := cX0_questions) (maxL := 1) (ret := (some .int)) (by decide) rfl rfl (Nat.le_of_ble_eq_true rfl) ?_
  intro p e s m below meth c hx hb hr hlocks hml hown hnm hts hpre ls hl
  have hl : lv_has ls 1 [(0, .ref h)] := hl
  obtain ⟨hP, hK⟩ := hpre
  have hS : va_S oo_N s.heap s.heap [] := va_S.rf
  have hin : ∀ w ∈ wsX00, w ∈ wsX0_questions := fun w h => List.mem_cons_of_mem _ (List.mem_append_right _ h)
  refine lv_aload_n hx hb dX0_questions_0 rfl (lv_at hl 0 rfl) ?_
  refine va_get (D := D) (ci := 0) (v := .int (nI qn)) (C := RX0) (T := TX0) (N := 8) hx hb hts hin hown hK hP 0 rfl rfl 6 (by decide) (hts (.fieldLink RX0 29 "OddsSampling" "questionCount" "I") (by decide +kernel)) (fun _ h9 => h9) rfl dX0_questions_1 ?_
  exact ro_reti hx hb hr hlocks hS (by unfold kvX0_questions; rfl) dX0_questions_4
theorem kX0_atT (l : Launch) (D : va_G) (t : Nat) (f : Nat → Int64) (i : Int32) : Met l yX0_at wsX0_at ({ frames := 0, cells := 0, slots := 0, locals := 0 } : Room) (va_Pc [.ref t, .int i] (fun U => va_T .long t 6 (fun j => .long (f j)) oo_N U U.heap)) (oo_RQl (kvX0_at 6 f i)) 0 0 oo_N := by
  refine oo_head (C := RX0) (cc := cX0_at) (maxL := 2) (ret := (some .long)) (by decide) rfl rfl (Nat.le_of_ble_eq_true rfl) ?_
  intro p e s m below meth c hx hb hr hlocks hml hown hnm hts hT ls hl
  have hl : lv_has ls 2 [(0, .ref t), (1, .int i)] := hl
  have hS : va_S oo_N s.heap s.heap [] := va_S.rf
  refine lv_aload_n hx hb dX0_at_0 rfl (lv_at hl 0 rfl) ?_
  refine lv_ifnull hx hb dX0_at_1 ?_
  refine lv_iload_n hx hb dX0_at_4 rfl (lv_at hl 1 rfl) ?_
  refine lv_if_lt (tgt := 20) hx hb dX0_at_5 (by decide) (fun c_5 => ?_) (fun c_5 => ?_)
  · refine lv_lconst (v := 0) hx hb dX0_at_20 (by decide) ?_
    exact ro_retl hx hb hr hlocks hS (by unfold kvX0_at; rw [if_pos c_5]) dX0_at_21
  · refine lv_iload_n hx hb dX0_at_8 rfl (lv_at hl 1 rfl) ?_
    refine lv_aload_n hx hb dX0_at_9 rfl (lv_at hl 0 rfl) ?_
    refine va_tlen (v := nI 6) hx hb hT hS rfl dX0_at_10 ?_
    refine lv_icmp_ge (tgt := 20) hx hb dX0_at_11 (by decide) (fun c_11 => ?_) (fun c_11 => ?_)
    · refine lv_lconst (v := 0) hx hb dX0_at_20 (by decide) ?_
      exact ro_retl hx hb hr hlocks hS (by unfold kvX0_at; rw [if_neg c_5, if_pos c_11]) dX0_at_21
    · refine lv_aload_n hx hb dX0_at_14 rfl (lv_at hl 0 rfl) ?_
      refine lv_iload_n hx hb dX0_at_15 rfl (lv_at hl 1 rfl) ?_
      refine va_tl (v := .long (f i.toNatClampNeg)) hx hb hT hS (oo_in (by omega) c_5 c_11) rfl dX0_at_16 ?_
      refine lv_goto (tgt := 21) hx hb dX0_at_17 (by decide) ?_
      exact ro_retl hx hb hr hlocks hS (by unfold kvX0_at; rw [if_neg c_5, if_neg c_11]) dX0_at_21
