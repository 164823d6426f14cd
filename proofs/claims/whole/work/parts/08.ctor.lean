def kl_d0 : Nat → Nat → Int64
  | 0 => fun _ => 0
  | n + 1 => kvX0_put_c0 12 (kl_d0 n) (nI n) (1 : Int64)
theorem ok_X0_init : yX0_init.cls ≠ "java/lang/invoke/MethodHandle" ∧ yX0_init.cls ≠ "java/lang/invoke/VarHandle" ∧ (parseMethodDescriptor yX0_init.desc).map (fun d => d.parameters.length) = some 0 := by decide +kernel
/-- the world behind the constructor -/
abbrev at_X0 (D : va_G) (A : Nat → Prop) (h : Nat) (z : Nat × Nat × Nat × Nat × Nat × ClassId) (t : State) : Prop := match z with
  | (a1, a2, a3, a4, a5, cJ) => va_P D vwCl ([(h, .inr (0, [.ref a1, .ref a2, .ref a3, .ref a4, .ref a5, .int (nI 0), .int (nI 0), .long (0 : Int64)])), (a1, .inl (cJ, 12, .inr (.inl (fun _ => 0)))), (a2, .inl (cJ, 12, .inr (.inl (kl_d0 12)))), (a3, .inl (cJ, 64, .inr (.inl (kl_whO (fun _ => 0) (kl_d0 12) (0 : Int32) (fun _ => 0) 6)))), (a4, .inl (cJ, 64, .inr (.inl (kl_whO (fun _ => 0) (kl_d0 12) (nI 6) (fun _ => 0) 6)))), (a5, .inl (cJ, 2560, .inr (.inl (fun _ => 0))))]) t.heap ∧ va_D A ([(h, .inr (0, [.ref a1, .ref a2, .ref a3, .ref a4, .ref a5, .int (nI 0), .int (nI 0), .long (0 : Int64)])), (a1, .inl (cJ, 12, .inr (.inl (fun _ => 0)))), (a2, .inl (cJ, 12, .inr (.inl (kl_d0 12)))), (a3, .inl (cJ, 64, .inr (.inl (kl_whO (fun _ => 0) (kl_d0 12) (0 : Int32) (fun _ => 0) 6)))), (a4, .inl (cJ, 64, .inr (.inl (kl_whO (fun _ => 0) (kl_d0 12) (nI 6) (fun _ => 0) 6)))), (a5, .inl (cJ, 2560, .inr (.inl (fun _ => 0))))]) ∧ va_K D vwCl [(cJ, .long)] t
set_option maxHeartbeats 4000000 in
set_option maxRecDepth 100000 in
theorem kX0_init (l : Launch) (D : va_G) (h sz : Nat) : Met l yX0_init wsX0_init ({ frames := 3, cells := 5, slots := 2712, locals := 74 } : Room) (va_Pc [.ref h] (oo_preM D ([(h, .inr (0, [.null, .null, .null, .null, .null, .int 0, .int 0, .long 0]))]) [] sz)) (va_Qv (fun (_ : Nat × Nat × Nat × Nat × Nat × ClassId) => True) (at_X0 D (va_A ([(h, .inr (0, [.null, .null, .null, .null, .null, .int 0, .int 0, .long 0]))]) sz) h) (va_A ([(h, .inr (0, [.null, .null, .null, .null, .null, .int 0, .int 0, .long 0]))]) sz)) 5 2712 (va_A ([(h, .inr (0, [.null, .null, .null, .null, .null, .int 0, .int 0, .long 0]))]) sz) := by
  refine oo_head (C := RX0) (cc := cX0_init) (maxL := 2) (ret := none) (by decide) rfl rfl (Nat.le_of_ble_eq_true rfl) ?_
  intro p e s m below meth c hx hb hr hlocks hml hown hnm hts hpre ls hl
  have hnm : meth.name = "<init>" := hnm
  have hl : lv_has ls 2 [(0, .ref h)] := hl
  obtain ⟨rfl, hP, hK, hD0⟩ := hpre
  have hD := hD0.self (sz := s.heap.size)
  have hA := oo_A ([(h, .inr (0, [.null, .null, .null, .null, .null, .int 0, .int 0, .long 0]))]) s
  have hS : va_S (va_A ([(h, .inr (0, [.null, .null, .null, .null, .null, .int 0, .int 0, .long 0]))]) s.heap.size) s.heap s.heap [] := va_S.rf
  have hin : ∀ w ∈ wsX00, w ∈ wsX0_init := fun w h => List.mem_cons_of_mem _ (List.mem_append_right _ h)
  refine lv_aload_n hx hb dX0_init_0 rfl (lv_at hl 0 rfl) ?_
  refine W.objInit hx hb hown (hts (.methodLink RX0 1 objectInit) (by decide +kernel)) (hts (.instanceMethod objectInit) (by decide +kernel)) (hts (.code objectInit ⟨#[0xb1]⟩ 1 none) (by decide +kernel)) rfl (by rw [hml]; exact hl.1) rfl dX0_init_1 (Nat.le_of_ble_eq_true rfl) (Nat.le_of_ble_eq_true rfl) ?_
  refine W.eq (g2 := F0 m 4 ls []) rfl ?_
  refine lv_aload_n hx hb dX0_init_4 rfl (lv_at hl 0 rfl) ?_
  refine lv_bipush (v := nI 12) hx hb dX0_init_5 (by decide) ?_
  refine va_newa (atype := .long) (ty := .long) (a0 := (12, .inr (.inl (fun _ => 0)))) hx hb (hts (.arrayClass .long) (by decide +kernel)) rfl hK hP hD hS hA (fun cA => rfl) (by decide +kernel) (by decide +kernel) (by decide) (Nat.le_of_ble_eq_true rfl) (Nat.le_of_ble_eq_true rfl) dX0_init_7 (fun q7 cJ H hK hP hD hS => ?_)
  have hK : va_K D vwCl [(cJ, .long)] s := hK
  have hP : va_P D vwCl ([(h, .inr (0, [.null, .null, .null, .null, .null, .int 0, .int 0, .long 0])), (q7, .inl (cJ, 12, .inr (.inl (fun _ => 0))))]) H := hP
  have hD : va_D _ ([(h, .inr (0, [.null, .null, .null, .null, .null, .int 0, .int 0, .long 0])), (q7, .inl (cJ, 12, .inr (.inl (fun _ => 0))))]) := hD
  refine va_putF (D := D) (ci := 0) (v := .ref q7) (ty := (.array .long)) (C := RX0) (T := TX0) (N := 8) hx hb hts hin tyX0 tyX0_ok nmX0 hown hK hP hD hS 0 rfl rfl 0 (by decide) (hts (.fieldLink RX0 9 "OddsSampling" "ups" "[J") (by decide +kernel)) (fun _ h9 => h9) rfl hnm rfl (by decide +kernel) rfl rfl (Nat.le_of_ble_eq_true rfl) dX0_init_9 (fun H locs hP hD hS => ?_)
  have hP : va_P D vwCl ([(h, .inr (0, [.ref q7, .null, .null, .null, .null, .int 0, .int 0, .long 0])), (q7, .inl (cJ, 12, .inr (.inl (fun _ => 0))))]) H := hP
  have hD : va_D _ ([(h, .inr (0, [.ref q7, .null, .null, .null, .null, .int 0, .int 0, .long 0])), (q7, .inl (cJ, 12, .inr (.inl (fun _ => 0))))]) := hD
  refine lv_aload_n hx hb dX0_init_12 rfl (lv_at hl 0 rfl) ?_
  refine lv_bipush (v := nI 12) hx hb dX0_init_13 (by decide) ?_
  refine va_newa (atype := .long) (ty := .long) (a0 := (12, .inr (.inl (fun _ => 0)))) hx hb (hts (.arrayClass .long) (by decide +kernel)) rfl hK hP hD hS hA (fun cA => rfl) (by decide +kernel) (by decide +kernel) (by decide) (Nat.le_of_ble_eq_true rfl) (Nat.le_of_ble_eq_true rfl) dX0_init_15 (fun q15 c9 H hK hP hD hS => ?_)
  obtain rfl : cJ = c9 := oo_cls hK 0 1 rfl rfl
  have hK := hK.sub (tys' := [(cJ, .long)]) [0] rfl
  have hK : va_K D vwCl [(cJ, .long)] s := hK
  have hP : va_P D vwCl ([(h, .inr (0, [.ref q7, .null, .null, .null, .null, .int 0, .int 0, .long 0])), (q7, .inl (cJ, 12, .inr (.inl (fun _ => 0)))), (q15, .inl (cJ, 12, .inr (.inl (fun _ => 0))))]) H := hP
  have hD : va_D _ ([(h, .inr (0, [.ref q7, .null, .null, .null, .null, .int 0, .int 0, .long 0])), (q7, .inl (cJ, 12, .inr (.inl (fun _ => 0)))), (q15, .inl (cJ, 12, .inr (.inl (fun _ => 0))))]) := hD
  refine va_putF (D := D) (ci := 0) (v := .ref q15) (ty := (.array .long)) (C := RX0) (T := TX0) (N := 8) hx hb hts hin tyX0 tyX0_ok nmX0 hown hK hP hD hS 0 rfl rfl 1 (by decide) (hts (.fieldLink RX0 13 "OddsSampling" "downs" "[J") (by decide +kernel)) (fun _ h9 => h9) rfl hnm rfl (by decide +kernel) rfl rfl (Nat.le_of_ble_eq_true rfl) dX0_init_17 (fun H locs hP hD hS => ?_)
  have hP : va_P D vwCl ([(h, .inr (0, [.ref q7, .ref q15, .null, .null, .null, .int 0, .int 0, .long 0])), (q7, .inl (cJ, 12, .inr (.inl (fun _ => 0)))), (q15, .inl (cJ, 12, .inr (.inl (fun _ => 0))))]) H := hP
  have hD : va_D _ ([(h, .inr (0, [.ref q7, .ref q15, .null, .null, .null, .int 0, .int 0, .long 0])), (q7, .inl (cJ, 12, .inr (.inl (fun _ => 0)))), (q15, .inl (cJ, 12, .inr (.inl (fun _ => 0))))]) := hD
  refine lv_aload_n hx hb dX0_init_20 rfl (lv_at hl 0 rfl) ?_
  refine lv_bipush (v := nI 64) hx hb dX0_init_21 (by decide) ?_
  refine va_newa (atype := .long) (ty := .long) (a0 := (64, .inr (.inl (fun _ => 0)))) hx hb (hts (.arrayClass .long) (by decide +kernel)) rfl hK hP hD hS hA (fun cA => rfl) (by decide +kernel) (by decide +kernel) (by decide) (Nat.le_of_ble_eq_true rfl) (Nat.le_of_ble_eq_true rfl) dX0_init_23 (fun q23 c9 H hK hP hD hS => ?_)
  obtain rfl : cJ = c9 := oo_cls hK 0 1 rfl rfl
  have hK := hK.sub (tys' := [(cJ, .long)]) [0] rfl
  have hK : va_K D vwCl [(cJ, .long)] s := hK
  have hP : va_P D vwCl ([(h, .inr (0, [.ref q7, .ref q15, .null, .null, .null, .int 0, .int 0, .long 0])), (q7, .inl (cJ, 12, .inr (.inl (fun _ => 0)))), (q15, .inl (cJ, 12, .inr (.inl (fun _ => 0)))), (q23, .inl (cJ, 64, .inr (.inl (fun _ => 0))))]) H := hP
  have hD : va_D _ ([(h, .inr (0, [.ref q7, .ref q15, .null, .null, .null, .int 0, .int 0, .long 0])), (q7, .inl (cJ, 12, .inr (.inl (fun _ => 0)))), (q15, .inl (cJ, 12, .inr (.inl (fun _ => 0)))), (q23, .inl (cJ, 64, .inr (.inl (fun _ => 0))))]) := hD
  refine va_putF (D := D) (ci := 0) (v := .ref q23) (ty := (.array .long)) (C := RX0) (T := TX0) (N := 8) hx hb hts hin tyX0 tyX0_ok nmX0 hown hK hP hD hS 0 rfl rfl 2 (by decide) (hts (.fieldLink RX0 16 "OddsSampling" "lowerWeights" "[J") (by decide +kernel)) (fun _ h9 => h9) rfl hnm rfl (by decide +kernel) rfl rfl (Nat.le_of_ble_eq_true rfl) dX0_init_25 (fun H locs hP hD hS => ?_)
  have hP : va_P D vwCl ([(h, .inr (0, [.ref q7, .ref q15, .ref q23, .null, .null, .int 0, .int 0, .long 0])), (q7, .inl (cJ, 12, .inr (.inl (fun _ => 0)))), (q15, .inl (cJ, 12, .inr (.inl (fun _ => 0)))), (q23, .inl (cJ, 64, .inr (.inl (fun _ => 0))))]) H := hP
  have hD : va_D _ ([(h, .inr (0, [.ref q7, .ref q15, .ref q23, .null, .null, .int 0, .int 0, .long 0])), (q7, .inl (cJ, 12, .inr (.inl (fun _ => 0)))), (q15, .inl (cJ, 12, .inr (.inl (fun _ => 0)))), (q23, .inl (cJ, 64, .inr (.inl (fun _ => 0))))]) := hD
  refine lv_aload_n hx hb dX0_init_28 rfl (lv_at hl 0 rfl) ?_
  refine lv_bipush (v := nI 64) hx hb dX0_init_29 (by decide) ?_
  refine va_newa (atype := .long) (ty := .long) (a0 := (64, .inr (.inl (fun _ => 0)))) hx hb (hts (.arrayClass .long) (by decide +kernel)) rfl hK hP hD hS hA (fun cA => rfl) (by decide +kernel) (by decide +kernel) (by decide) (Nat.le_of_ble_eq_true rfl) (Nat.le_of_ble_eq_true rfl) dX0_init_31 (fun q31 c9 H hK hP hD hS => ?_)
  obtain rfl : cJ = c9 := oo_cls hK 0 1 rfl rfl
  have hK := hK.sub (tys' := [(cJ, .long)]) [0] rfl
  have hK : va_K D vwCl [(cJ, .long)] s := hK
  have hP : va_P D vwCl ([(h, .inr (0, [.ref q7, .ref q15, .ref q23, .null, .null, .int 0, .int 0, .long 0])), (q7, .inl (cJ, 12, .inr (.inl (fun _ => 0)))), (q15, .inl (cJ, 12, .inr (.inl (fun _ => 0)))), (q23, .inl (cJ, 64, .inr (.inl (fun _ => 0)))), (q31, .inl (cJ, 64, .inr (.inl (fun _ => 0))))]) H := hP
  have hD : va_D _ ([(h, .inr (0, [.ref q7, .ref q15, .ref q23, .null, .null, .int 0, .int 0, .long 0])), (q7, .inl (cJ, 12, .inr (.inl (fun _ => 0)))), (q15, .inl (cJ, 12, .inr (.inl (fun _ => 0)))), (q23, .inl (cJ, 64, .inr (.inl (fun _ => 0)))), (q31, .inl (cJ, 64, .inr (.inl (fun _ => 0))))]) := hD
  refine va_putF (D := D) (ci := 0) (v := .ref q31) (ty := (.array .long)) (C := RX0) (T := TX0) (N := 8) hx hb hts hin tyX0 tyX0_ok nmX0 hown hK hP hD hS 0 rfl rfl 3 (by decide) (hts (.fieldLink RX0 19 "OddsSampling" "upperWeights" "[J") (by decide +kernel)) (fun _ h9 => h9) rfl hnm rfl (by decide +kernel) rfl rfl (Nat.le_of_ble_eq_true rfl) dX0_init_33 (fun H locs hP hD hS => ?_)
  have hP : va_P D vwCl ([(h, .inr (0, [.ref q7, .ref q15, .ref q23, .ref q31, .null, .int 0, .int 0, .long 0])), (q7, .inl (cJ, 12, .inr (.inl (fun _ => 0)))), (q15, .inl (cJ, 12, .inr (.inl (fun _ => 0)))), (q23, .inl (cJ, 64, .inr (.inl (fun _ => 0)))), (q31, .inl (cJ, 64, .inr (.inl (fun _ => 0))))]) H := hP
  have hD : va_D _ ([(h, .inr (0, [.ref q7, .ref q15, .ref q23, .ref q31, .null, .int 0, .int 0, .long 0])), (q7, .inl (cJ, 12, .inr (.inl (fun _ => 0)))), (q15, .inl (cJ, 12, .inr (.inl (fun _ => 0)))), (q23, .inl (cJ, 64, .inr (.inl (fun _ => 0)))), (q31, .inl (cJ, 64, .inr (.inl (fun _ => 0))))]) := hD
  refine lv_aload_n hx hb dX0_init_36 rfl (lv_at hl 0 rfl) ?_
  refine lv_sipush (v := nI 2560) hx hb dX0_init_37 (by decide) ?_
  refine va_newa (atype := .long) (ty := .long) (a0 := (2560, .inr (.inl (fun _ => 0)))) hx hb (hts (.arrayClass .long) (by decide +kernel)) rfl hK hP hD hS hA (fun cA => rfl) (by decide +kernel) (by decide +kernel) (by decide) (Nat.le_of_ble_eq_true rfl) (Nat.le_of_ble_eq_true rfl) dX0_init_40 (fun q40 c9 H hK hP hD hS => ?_)
  obtain rfl : cJ = c9 := oo_cls hK 0 1 rfl rfl
  have hK := hK.sub (tys' := [(cJ, .long)]) [0] rfl
  have hK : va_K D vwCl [(cJ, .long)] s := hK
  have hP : va_P D vwCl ([(h, .inr (0, [.ref q7, .ref q15, .ref q23, .ref q31, .null, .int 0, .int 0, .long 0])), (q7, .inl (cJ, 12, .inr (.inl (fun _ => 0)))), (q15, .inl (cJ, 12, .inr (.inl (fun _ => 0)))), (q23, .inl (cJ, 64, .inr (.inl (fun _ => 0)))), (q31, .inl (cJ, 64, .inr (.inl (fun _ => 0)))), (q40, .inl (cJ, 2560, .inr (.inl (fun _ => 0))))]) H := hP
  have hD : va_D _ ([(h, .inr (0, [.ref q7, .ref q15, .ref q23, .ref q31, .null, .int 0, .int 0, .long 0])), (q7, .inl (cJ, 12, .inr (.inl (fun _ => 0)))), (q15, .inl (cJ, 12, .inr (.inl (fun _ => 0)))), (q23, .inl (cJ, 64, .inr (.inl (fun _ => 0)))), (q31, .inl (cJ, 64, .inr (.inl (fun _ => 0)))), (q40, .inl (cJ, 2560, .inr (.inl (fun _ => 0))))]) := hD
  refine va_putF (D := D) (ci := 0) (v := .ref q40) (ty := (.array .long)) (C := RX0) (T := TX0) (N := 8) hx hb hts hin tyX0 tyX0_ok nmX0 hown hK hP hD hS 0 rfl rfl 4 (by decide) (hts (.fieldLink RX0 22 "OddsSampling" "answers" "[J") (by decide +kernel)) (fun _ h9 => h9) rfl hnm rfl (by decide +kernel) rfl rfl (Nat.le_of_ble_eq_true rfl) dX0_init_42 (fun H locs hP hD hS => ?_)
  have hP : va_P D vwCl ([(h, .inr (0, [.ref q7, .ref q15, .ref q23, .ref q31, .ref q40, .int 0, .int 0, .long 0])), (q7, .inl (cJ, 12, .inr (.inl (fun _ => 0)))), (q15, .inl (cJ, 12, .inr (.inl (fun _ => 0)))), (q23, .inl (cJ, 64, .inr (.inl (fun _ => 0)))), (q31, .inl (cJ, 64, .inr (.inl (fun _ => 0)))), (q40, .inl (cJ, 2560, .inr (.inl (fun _ => 0))))]) H := hP
  have hD : va_D _ ([(h, .inr (0, [.ref q7, .ref q15, .ref q23, .ref q31, .ref q40, .int 0, .int 0, .long 0])), (q7, .inl (cJ, 12, .inr (.inl (fun _ => 0)))), (q15, .inl (cJ, 12, .inr (.inl (fun _ => 0)))), (q23, .inl (cJ, 64, .inr (.inl (fun _ => 0)))), (q31, .inl (cJ, 64, .inr (.inl (fun _ => 0)))), (q40, .inl (cJ, 2560, .inr (.inl (fun _ => 0))))]) := hD
  refine lv_aload_n hx hb dX0_init_45 rfl (lv_at hl 0 rfl) ?_
  refine lv_iconst (v := nI 0) hx hb dX0_init_46 (by decide) ?_
  refine va_put (D := D) (ci := 0) (v := .int (nI 0)) (ty := .int) (C := RX0) (T := TX0) (N := 8) hx hb hts hin tyX0 tyX0_ok nmX0 hown hK hP hD hS 0 rfl rfl 5 (by decide) (hts (.fieldLink RX0 25 "OddsSampling" "factCount" "I") (by decide +kernel)) (fun _ h9 => h9) rfl (by decide +kernel) rfl rfl (Nat.le_of_ble_eq_true rfl) dX0_init_47 (fun H locs hP hD hS => ?_)
  have hP : va_P D vwCl ([(h, .inr (0, [.ref q7, .ref q15, .ref q23, .ref q31, .ref q40, .int (nI 0), .int 0, .long 0])), (q7, .inl (cJ, 12, .inr (.inl (fun _ => 0)))), (q15, .inl (cJ, 12, .inr (.inl (fun _ => 0)))), (q23, .inl (cJ, 64, .inr (.inl (fun _ => 0)))), (q31, .inl (cJ, 64, .inr (.inl (fun _ => 0)))), (q40, .inl (cJ, 2560, .inr (.inl (fun _ => 0))))]) H := hP
  have hD : va_D _ ([(h, .inr (0, [.ref q7, .ref q15, .ref q23, .ref q31, .ref q40, .int (nI 0), .int 0, .long 0])), (q7, .inl (cJ, 12, .inr (.inl (fun _ => 0)))), (q15, .inl (cJ, 12, .inr (.inl (fun _ => 0)))), (q23, .inl (cJ, 64, .inr (.inl (fun _ => 0)))), (q31, .inl (cJ, 64, .inr (.inl (fun _ => 0)))), (q40, .inl (cJ, 2560, .inr (.inl (fun _ => 0))))]) := hD
  refine lv_aload_n hx hb dX0_init_50 rfl (lv_at hl 0 rfl) ?_
  refine lv_iconst (v := nI 0) hx hb dX0_init_51 (by decide) ?_
  refine va_put (D := D) (ci := 0) (v := .int (nI 0)) (ty := .int) (C := RX0) (T := TX0) (N := 8) hx hb hts hin tyX0 tyX0_ok nmX0 hown hK hP hD hS 0 rfl rfl 6 (by decide) (hts (.fieldLink RX0 29 "OddsSampling" "questionCount" "I") (by decide +kernel)) (fun _ h9 => h9) rfl (by decide +kernel) rfl rfl (Nat.le_of_ble_eq_true rfl) dX0_init_52 (fun H locs hP hD hS => ?_)
  have hP : va_P D vwCl ([(h, .inr (0, [.ref q7, .ref q15, .ref q23, .ref q31, .ref q40, .int (nI 0), .int (nI 0), .long 0])), (q7, .inl (cJ, 12, .inr (.inl (fun _ => 0)))), (q15, .inl (cJ, 12, .inr (.inl (fun _ => 0)))), (q23, .inl (cJ, 64, .inr (.inl (fun _ => 0)))), (q31, .inl (cJ, 64, .inr (.inl (fun _ => 0)))), (q40, .inl (cJ, 2560, .inr (.inl (fun _ => 0))))]) H := hP
  have hD : va_D _ ([(h, .inr (0, [.ref q7, .ref q15, .ref q23, .ref q31, .ref q40, .int (nI 0), .int (nI 0), .long 0])), (q7, .inl (cJ, 12, .inr (.inl (fun _ => 0)))), (q15, .inl (cJ, 12, .inr (.inl (fun _ => 0)))), (q23, .inl (cJ, 64, .inr (.inl (fun _ => 0)))), (q31, .inl (cJ, 64, .inr (.inl (fun _ => 0)))), (q40, .inl (cJ, 2560, .inr (.inl (fun _ => 0))))]) := hD
  refine lv_aload_n hx hb dX0_init_55 rfl (lv_at hl 0 rfl) ?_
  refine lv_lconst (v := (0 : Int64)) hx hb dX0_init_56 (by decide) ?_
  refine va_put (D := D) (ci := 0) (v := .long (0 : Int64)) (ty := .long) (C := RX0) (T := TX0) (N := 8) hx hb hts hin tyX0 tyX0_ok nmX0 hown hK hP hD hS 0 rfl rfl 7 (by decide) (hts (.fieldLink RX0 32 "OddsSampling" "lastSeed" "J") (by decide +kernel)) (fun _ h9 => h9) rfl (by decide +kernel) rfl rfl (Nat.le_of_ble_eq_true rfl) dX0_init_57 (fun H locs hP hD hS => ?_)
  have hP : va_P D vwCl ([(h, .inr (0, [.ref q7, .ref q15, .ref q23, .ref q31, .ref q40, .int (nI 0), .int (nI 0), .long (0 : Int64)])), (q7, .inl (cJ, 12, .inr (.inl (fun _ => 0)))), (q15, .inl (cJ, 12, .inr (.inl (fun _ => 0)))), (q23, .inl (cJ, 64, .inr (.inl (fun _ => 0)))), (q31, .inl (cJ, 64, .inr (.inl (fun _ => 0)))), (q40, .inl (cJ, 2560, .inr (.inl (fun _ => 0))))]) H := hP
  have hD : va_D _ ([(h, .inr (0, [.ref q7, .ref q15, .ref q23, .ref q31, .ref q40, .int (nI 0), .int (nI 0), .long (0 : Int64)])), (q7, .inl (cJ, 12, .inr (.inl (fun _ => 0)))), (q15, .inl (cJ, 12, .inr (.inl (fun _ => 0)))), (q23, .inl (cJ, 64, .inr (.inl (fun _ => 0)))), (q31, .inl (cJ, 64, .inr (.inl (fun _ => 0)))), (q40, .inl (cJ, 2560, .inr (.inl (fun _ => 0))))]) := hD
  refine lv_iconst (v := nI 0) hx hb dX0_init_60 (by decide) ?_
  refine lv_istore_n (lv' := [(1, .int (nI 0)), (0, .ref h)]) hx hb dX0_init_61 rfl hl (by decide) rfl (fun ls hl => ?_)
  have hl : lv_has ls 2 [(0, .ref h), (1, .int (nI 0))] := lv_sub hl [1, 0] rfl
  have hP := Eq.mp (congrArg (fun z9 => va_P D vwCl ([(h, .inr (0, [.ref q7, .ref q15, .ref q23, .ref q31, .ref q40, .int (nI 0), .int (nI 0), .long (0 : Int64)])), (q7, .inl (cJ, 12, .inr (.inl (fun _ => 0)))), (q15, .inl (cJ, 12, .inr (.inl z9))), (q23, .inl (cJ, 64, .inr (.inl (fun _ => 0)))), (q31, .inl (cJ, 64, .inr (.inl (fun _ => 0)))), (q40, .inl (cJ, 2560, .inr (.inl (fun _ => 0))))]) H) (show (fun _ => 0) = kl_d0 0 from (by simp only [kl_d0]))) hP
  have hP : va_P D vwCl ([(h, .inr (0, [.ref q7, .ref q15, .ref q23, .ref q31, .ref q40, .int (nI 0), .int (nI 0), .long (0 : Int64)])), (q7, .inl (cJ, 12, .inr (.inl (fun _ => 0)))), (q15, .inl (cJ, 12, .inr (.inl (kl_d0 0)))), (q23, .inl (cJ, 64, .inr (.inl (fun _ => 0)))), (q31, .inl (cJ, 64, .inr (.inl (fun _ => 0)))), (q40, .inl (cJ, 2560, .inr (.inl (fun _ => 0))))]) H := hP
  have hD : va_D _ ([(h, .inr (0, [.ref q7, .ref q15, .ref q23, .ref q31, .ref q40, .int (nI 0), .int (nI 0), .long (0 : Int64)])), (q7, .inl (cJ, 12, .inr (.inl (fun _ => 0)))), (q15, .inl (cJ, 12, .inr (.inl (kl_d0 0)))), (q23, .inl (cJ, 64, .inr (.inl (fun _ => 0)))), (q31, .inl (cJ, 64, .inr (.inl (fun _ => 0)))), (q40, .inl (cJ, 2560, .inr (.inl (fun _ => 0))))]) := oo_Dre hD (oo_fc (oo_fc (oo_fc (oo_fc (oo_fc (oo_fc rfl))))))
  refine oo_loop (N := 12) (fun n H locs ls => va_P D vwCl ([(h, .inr (0, [.ref q7, .ref q15, .ref q23, .ref q31, .ref q40, .int (nI 0), .int (nI 0), .long (0 : Int64)])), (q7, .inl (cJ, 12, .inr (.inl (fun _ => 0)))), (q15, .inl (cJ, 12, .inr (.inl (kl_d0 n)))), (q23, .inl (cJ, 64, .inr (.inl (fun _ => 0)))), (q31, .inl (cJ, 64, .inr (.inl (fun _ => 0)))), (q40, .inl (cJ, 2560, .inr (.inl (fun _ => 0))))]) H ∧ va_D (va_A ([(h, .inr (0, [.null, .null, .null, .null, .null, .int 0, .int 0, .long 0]))]) s.heap.size) ([(h, .inr (0, [.ref q7, .ref q15, .ref q23, .ref q31, .ref q40, .int (nI 0), .int (nI 0), .long (0 : Int64)])), (q7, .inl (cJ, 12, .inr (.inl (fun _ => 0)))), (q15, .inl (cJ, 12, .inr (.inl (kl_d0 n)))), (q23, .inl (cJ, 64, .inr (.inl (fun _ => 0)))), (q31, .inl (cJ, 64, .inr (.inl (fun _ => 0)))), (q40, .inl (cJ, 2560, .inr (.inl (fun _ => 0))))]) ∧ va_S (va_A ([(h, .inr (0, [.null, .null, .null, .null, .null, .int 0, .int 0, .long 0]))]) s.heap.size) s.heap H locs ∧ lv_has ls 2 [(0, .ref h), (1, .int (nI n))]) ?_ ?_ 0 (Nat.zero_le _) ⟨hP, hD, hS, hl⟩
  · intro H locs ls hI
    obtain ⟨hP, hD, hS, hl⟩ := hI
    refine lv_iload_n hx hb dX0_init_62 rfl (lv_at hl 1 rfl) ?_
    refine lv_bipush (v := nI 12) hx hb dX0_init_63 (by decide) ?_
    refine lv_icmp_ge (tgt := 83) hx hb dX0_init_65 (by decide) (fun c_65 => ?_) (fun c_65 => ?_)
    · refine lv_aload_n hx hb dX0_init_83 rfl (lv_at hl 0 rfl) ?_
      refine mu_callv (va_runV (As := []) (rest := []) ⟨hx, hb, hml, hown, hts⟩ (kX0_weigh l D cJ h q7 q15 q23 q31 q40 (fun _ => 0) (kl_d0 12) (fun _ => 0) (fun _ => 0) (fun _ => 0) 0 0 (0 : Int64) _) (cwV 0 hts gX0_init_X0_weigh rfl rfl rfl ok_X0_weigh ⟨Nat.le_of_ble_eq_true rfl, Nat.le_of_ble_eq_true rfl⟩) ⟨oo_blindM, va_recv hK hP (ci := 0) (q0 := 0) rfl rfl, oo_psM hP hD hK [0, 1, 2, 3, 4, 5] rfl rfl [0] rfl⟩ rfl rfl hl.1 rfl (lv_room (Nat.le_of_ble_eq_true rfl)) dX0_init_84 ⟨Nat.le_of_ble_eq_true rfl, Nat.le_of_ble_eq_true rfl⟩) hP hD hS hA [0, 1, 2, 3, 4, 5] rfl (oo_fc (oo_fc (oo_fc (oo_fc (oo_fc (oo_fc rfl)))))) (fun H locs hP hD hS => ?_)
      have hP : va_P D vwCl ([(h, .inr (0, [.ref q7, .ref q15, .ref q23, .ref q31, .ref q40, .int (nI 0), .int (nI 0), .long (0 : Int64)])), (q7, .inl (cJ, 12, .inr (.inl (fun _ => 0)))), (q15, .inl (cJ, 12, .inr (.inl (kl_d0 12)))), (q23, .inl (cJ, 64, .inr (.inl (kl_whO (fun _ => 0) (kl_d0 12) (0 : Int32) (fun _ => 0) 6)))), (q31, .inl (cJ, 64, .inr (.inl (kl_whO (fun _ => 0) (kl_d0 12) (nI 6) (fun _ => 0) 6)))), (q40, .inl (cJ, 2560, .inr (.inl (fun _ => 0))))]) H := hP
      have hD : va_D _ ([(h, .inr (0, [.ref q7, .ref q15, .ref q23, .ref q31, .ref q40, .int (nI 0), .int (nI 0), .long (0 : Int64)])), (q7, .inl (cJ, 12, .inr (.inl (fun _ => 0)))), (q15, .inl (cJ, 12, .inr (.inl (kl_d0 12)))), (q23, .inl (cJ, 64, .inr (.inl (kl_whO (fun _ => 0) (kl_d0 12) (0 : Int32) (fun _ => 0) 6)))), (q31, .inl (cJ, 64, .inr (.inl (kl_whO (fun _ => 0) (kl_d0 12) (nI 6) (fun _ => 0) 6)))), (q40, .inl (cJ, 2560, .inr (.inl (fun _ => 0))))]) := hD
      refine W.cs (cells' := 5) (slots' := 2712) rfl rfl ?_
      exact W.vret hx hb hr (fun t ht hW => ⟨⟨(q7, q15, q23, q31, q40, cJ), rfl, trivial, by rw [ht]; exact hP, hD, va_K.moved hW.alike hK⟩, hS.F ht⟩) hS.2.2 dX0_init_87 hlocks
    · exact absurd (nI_le (Nat.le_refl _) (by omega)) c_65
  · intro n hltn ihn H locs ls hI
    obtain ⟨hP, hD, hS, hl⟩ := hI
    refine lv_iload_n hx hb dX0_init_62 rfl (lv_at hl 1 rfl) ?_
    refine lv_bipush (v := nI 12) hx hb dX0_init_63 (by decide) ?_
    refine lv_icmp_ge (tgt := 83) hx hb dX0_init_65 (by decide) (fun c_65 => ?_) (fun c_65 => ?_)
    · exact absurd c_65 (nI_ge hltn (by omega))
    · refine lv_aload_n hx hb dX0_init_68 rfl (lv_at hl 0 rfl) ?_
      refine va_get (D := D) (ci := 0) (v := .ref q15) (C := RX0) (T := TX0) (N := 8) hx hb hts hin hown hK hP 0 rfl rfl 1 (by decide) (hts (.fieldLink RX0 13 "OddsSampling" "downs" "[J") (by decide +kernel)) (fun _ h9 => h9) rfl dX0_init_69 ?_
      refine lv_iload_n hx hb dX0_init_72 rfl (lv_at hl 1 rfl) ?_
      refine lv_lconst (v := (1 : Int64)) hx hb dX0_init_73 (by decide) ?_
      refine mu_callv (va_runS (As := [.ref q15, .int (nI n), .long (1 : Int64)]) (rest := []) ⟨hx, hb, hml, hown, hts⟩ (kX0_put l D cJ q15 12 (kl_d0 n) (nI n) (1 : Int64) (by omega) _) (va_cwS 3 hts gX0_init_X0_put rfl rfl rfl ok_X0_put ⟨Nat.le_of_ble_eq_true rfl, Nat.le_of_ble_eq_true rfl⟩) ⟨oo_blindM, oo_psM hP hD hK [2] rfl rfl [0] rfl⟩ rfl rfl hl.1 rfl (lv_room (Nat.le_of_ble_eq_true rfl)) dX0_init_74 ⟨Nat.le_of_ble_eq_true rfl, Nat.le_of_ble_eq_true rfl⟩) hP hD hS hA [2] rfl (oo_fc rfl) (fun H locs hP hD hS => ?_)
      have hP : va_P D vwCl ([(h, .inr (0, [.ref q7, .ref q15, .ref q23, .ref q31, .ref q40, .int (nI 0), .int (nI 0), .long (0 : Int64)])), (q7, .inl (cJ, 12, .inr (.inl (fun _ => 0)))), (q15, .inl (cJ, 12, .inr (.inl (kvX0_put_c0 12 (kl_d0 n) (nI n) (1 : Int64))))), (q23, .inl (cJ, 64, .inr (.inl (fun _ => 0)))), (q31, .inl (cJ, 64, .inr (.inl (fun _ => 0)))), (q40, .inl (cJ, 2560, .inr (.inl (fun _ => 0))))]) H := hP
      have hD : va_D _ ([(h, .inr (0, [.ref q7, .ref q15, .ref q23, .ref q31, .ref q40, .int (nI 0), .int (nI 0), .long (0 : Int64)])), (q7, .inl (cJ, 12, .inr (.inl (fun _ => 0)))), (q15, .inl (cJ, 12, .inr (.inl (kvX0_put_c0 12 (kl_d0 n) (nI n) (1 : Int64))))), (q23, .inl (cJ, 64, .inr (.inl (fun _ => 0)))), (q31, .inl (cJ, 64, .inr (.inl (fun _ => 0)))), (q40, .inl (cJ, 2560, .inr (.inl (fun _ => 0))))]) := hD
      refine lv_iinc (v := nI (n + 1)) (lv' := [(1, .int (nI (n + 1))), (0, .ref h)]) hx hb dX0_init_77 hl (k := 1) rfl (oo_inc n 1) (by decide) rfl (fun ls hl => ?_)
      refine lv_goto (tgt := 62) hx hb dX0_init_80 (by decide) ?_
      have hl : lv_has ls 2 [(0, .ref h), (1, .int (nI (n + 1)))] := lv_sub hl [1, 0] rfl
      have hP := Eq.mp (congrArg (fun z9 => va_P D vwCl ([(h, .inr (0, [.ref q7, .ref q15, .ref q23, .ref q31, .ref q40, .int (nI 0), .int (nI 0), .long (0 : Int64)])), (q7, .inl (cJ, 12, .inr (.inl (fun _ => 0)))), (q15, .inl (cJ, 12, .inr (.inl z9))), (q23, .inl (cJ, 64, .inr (.inl (fun _ => 0)))), (q31, .inl (cJ, 64, .inr (.inl (fun _ => 0)))), (q40, .inl (cJ, 2560, .inr (.inl (fun _ => 0))))]) H) (show kvX0_put_c0 12 (kl_d0 n) (nI n) (1 : Int64) = kl_d0 (n + 1) from (by simp only [kl_d0]))) hP
      have hP : va_P D vwCl ([(h, .inr (0, [.ref q7, .ref q15, .ref q23, .ref q31, .ref q40, .int (nI 0), .int (nI 0), .long (0 : Int64)])), (q7, .inl (cJ, 12, .inr (.inl (fun _ => 0)))), (q15, .inl (cJ, 12, .inr (.inl (kl_d0 (n + 1))))), (q23, .inl (cJ, 64, .inr (.inl (fun _ => 0)))), (q31, .inl (cJ, 64, .inr (.inl (fun _ => 0)))), (q40, .inl (cJ, 2560, .inr (.inl (fun _ => 0))))]) H := hP
      have hD : va_D _ ([(h, .inr (0, [.ref q7, .ref q15, .ref q23, .ref q31, .ref q40, .int (nI 0), .int (nI 0), .long (0 : Int64)])), (q7, .inl (cJ, 12, .inr (.inl (fun _ => 0)))), (q15, .inl (cJ, 12, .inr (.inl (kl_d0 (n + 1))))), (q23, .inl (cJ, 64, .inr (.inl (fun _ => 0)))), (q31, .inl (cJ, 64, .inr (.inl (fun _ => 0)))), (q40, .inl (cJ, 2560, .inr (.inl (fun _ => 0))))]) := oo_Dre hD (oo_fc (oo_fc (oo_fc (oo_fc (oo_fc (oo_fc rfl))))))
      exact ihn _ _ _ ⟨hP, hD, hS, hl⟩
theorem ok_X1_init : yX1_init.cls ≠ "java/lang/invoke/MethodHandle" ∧ yX1_init.cls ≠ "java/lang/invoke/VarHandle" ∧ (parseMethodDescriptor yX1_init.desc).map (fun d => d.parameters.length) = some 0 := by decide +kernel
/-- the world behind the constructor -/
abbrev at_X1 (D : va_G) (A : Nat → Prop) (h : Nat) (z : Nat × Nat × Nat × ClassId × ClassId) (t : State) : Prop := match z with
  | (b1, b2, b3, cI, cZ) => va_P D vwCl ([(h, .inr (1, [.ref b1, .ref b2, .int 0, .ref b3, .int 0, .long 0, .int 0])), (b1, .inl (cI, 12, .inl (fun _ => 0))), (b2, .inl (cI, 12, .inl (fun _ => 0))), (b3, .inl (cZ, 163840, .inl (fun _ => 0)))]) t.heap ∧ va_D A ([(h, .inr (1, [.ref b1, .ref b2, .int 0, .ref b3, .int 0, .long 0, .int 0])), (b1, .inl (cI, 12, .inl (fun _ => 0))), (b2, .inl (cI, 12, .inl (fun _ => 0))), (b3, .inl (cZ, 163840, .inl (fun _ => 0)))]) ∧ va_K D vwCl [(cI, .int), (cZ, .boolean)] t
set_option maxHeartbeats 4000000 in
set_option maxRecDepth 100000 in
theorem kX1_init (l : Launch) (D : va_G) (h sz : Nat) : Met l yX1_init wsX1_init ({ frames := 1, cells := 3, slots := 163864, locals := 12 } : Room) (va_Pc [.ref h] (oo_preM D ([(h, .inr (1, [.null, .null, .int 0, .null, .int 0, .long 0, .int 0]))]) [] sz)) (va_Qv (fun (_ : Nat × Nat × Nat × ClassId × ClassId) => True) (at_X1 D (va_A ([(h, .inr (1, [.null, .null, .int 0, .null, .int 0, .long 0, .int 0]))]) sz) h) (va_A ([(h, .inr (1, [.null, .null, .int 0, .null, .int 0, .long 0, .int 0]))]) sz)) 3 163864 (va_A ([(h, .inr (1, [.null, .null, .int 0, .null, .int 0, .long 0, .int 0]))]) sz) := by
  refine oo_head (C := RX1) (cc := cX1_init) (maxL := 1) (ret := none) (by decide) rfl rfl (Nat.le_of_ble_eq_true rfl) ?_
  intro p e s m below meth c hx hb hr hlocks hml hown hnm hts hpre ls hl
  have hnm : meth.name = "<init>" := hnm
  have hl : lv_has ls 1 [(0, .ref h)] := hl
  obtain ⟨rfl, hP, hK, hD0⟩ := hpre
  have hD := hD0.self (sz := s.heap.size)
  have hA := oo_A ([(h, .inr (1, [.null, .null, .int 0, .null, .int 0, .long 0, .int 0]))]) s
  have hS : va_S (va_A ([(h, .inr (1, [.null, .null, .int 0, .null, .int 0, .long 0, .int 0]))]) s.heap.size) s.heap s.heap [] := va_S.rf
  have hin : ∀ w ∈ wsX10, w ∈ wsX1_init := fun w h => List.mem_cons_of_mem _ (List.mem_append_right _ h)
  refine lv_aload_n hx hb dX1_init_0 rfl (lv_at hl 0 rfl) ?_
  refine W.objInit hx hb hown (hts (.methodLink RX1 1 objectInit) (by decide +kernel)) (hts (.instanceMethod objectInit) (by decide +kernel)) (hts (.code objectInit ⟨#[0xb1]⟩ 1 none) (by decide +kernel)) rfl (by rw [hml]; exact hl.1) rfl dX1_init_1 (Nat.le_of_ble_eq_true rfl) (Nat.le_of_ble_eq_true rfl) ?_
  refine W.eq (g2 := F0 m 4 ls []) rfl ?_
  refine lv_aload_n hx hb dX1_init_4 rfl (lv_at hl 0 rfl) ?_
  refine lv_bipush (v := nI 12) hx hb dX1_init_5 (by decide) ?_
  refine va_newa (atype := .int) (ty := .int) (a0 := (12, .inl (fun _ => 0))) hx hb (hts (.arrayClass .int) (by decide +kernel)) rfl hK hP hD hS hA (fun cA => rfl) (by decide +kernel) (by decide +kernel) (by decide) (Nat.le_of_ble_eq_true rfl) (Nat.le_of_ble_eq_true rfl) dX1_init_7 (fun q7 cI H hK hP hD hS => ?_)
  have hK : va_K D vwCl [(cI, .int)] s := hK
  have hP : va_P D vwCl ([(h, .inr (1, [.null, .null, .int 0, .null, .int 0, .long 0, .int 0])), (q7, .inl (cI, 12, .inl (fun _ => 0)))]) H := hP
  have hD : va_D _ ([(h, .inr (1, [.null, .null, .int 0, .null, .int 0, .long 0, .int 0])), (q7, .inl (cI, 12, .inl (fun _ => 0)))]) := hD
  refine va_putF (D := D) (ci := 1) (v := .ref q7) (ty := (.array .int)) (C := RX1) (T := TX1) (N := 7) hx hb hts hin tyX1 tyX1_ok nmX1 hown hK hP hD hS 0 rfl rfl 0 (by decide) (hts (.fieldLink RX1 7 "OddsSamplingModel" "ups" "[I") (by decide +kernel)) (fun _ h9 => h9) rfl hnm rfl (by decide +kernel) rfl rfl (Nat.le_of_ble_eq_true rfl) dX1_init_9 (fun H locs hP hD hS => ?_)
  have hP : va_P D vwCl ([(h, .inr (1, [.ref q7, .null, .int 0, .null, .int 0, .long 0, .int 0])), (q7, .inl (cI, 12, .inl (fun _ => 0)))]) H := hP
  have hD : va_D _ ([(h, .inr (1, [.ref q7, .null, .int 0, .null, .int 0, .long 0, .int 0])), (q7, .inl (cI, 12, .inl (fun _ => 0)))]) := hD
  refine lv_aload_n hx hb dX1_init_12 rfl (lv_at hl 0 rfl) ?_
  refine lv_bipush (v := nI 12) hx hb dX1_init_13 (by decide) ?_
  refine va_newa (atype := .int) (ty := .int) (a0 := (12, .inl (fun _ => 0))) hx hb (hts (.arrayClass .int) (by decide +kernel)) rfl hK hP hD hS hA (fun cA => rfl) (by decide +kernel) (by decide +kernel) (by decide) (Nat.le_of_ble_eq_true rfl) (Nat.le_of_ble_eq_true rfl) dX1_init_15 (fun q15 c9 H hK hP hD hS => ?_)
  obtain rfl : cI = c9 := oo_cls hK 0 1 rfl rfl
  have hK := hK.sub (tys' := [(cI, .int)]) [0] rfl
  have hK : va_K D vwCl [(cI, .int)] s := hK
  have hP : va_P D vwCl ([(h, .inr (1, [.ref q7, .null, .int 0, .null, .int 0, .long 0, .int 0])), (q7, .inl (cI, 12, .inl (fun _ => 0))), (q15, .inl (cI, 12, .inl (fun _ => 0)))]) H := hP
  have hD : va_D _ ([(h, .inr (1, [.ref q7, .null, .int 0, .null, .int 0, .long 0, .int 0])), (q7, .inl (cI, 12, .inl (fun _ => 0))), (q15, .inl (cI, 12, .inl (fun _ => 0)))]) := hD
  refine va_putF (D := D) (ci := 1) (v := .ref q15) (ty := (.array .int)) (C := RX1) (T := TX1) (N := 7) hx hb hts hin tyX1 tyX1_ok nmX1 hown hK hP hD hS 0 rfl rfl 1 (by decide) (hts (.fieldLink RX1 13 "OddsSamplingModel" "downs" "[I") (by decide +kernel)) (fun _ h9 => h9) rfl hnm rfl (by decide +kernel) rfl rfl (Nat.le_of_ble_eq_true rfl) dX1_init_17 (fun H locs hP hD hS => ?_)
  have hP : va_P D vwCl ([(h, .inr (1, [.ref q7, .ref q15, .int 0, .null, .int 0, .long 0, .int 0])), (q7, .inl (cI, 12, .inl (fun _ => 0))), (q15, .inl (cI, 12, .inl (fun _ => 0)))]) H := hP
  have hD : va_D _ ([(h, .inr (1, [.ref q7, .ref q15, .int 0, .null, .int 0, .long 0, .int 0])), (q7, .inl (cI, 12, .inl (fun _ => 0))), (q15, .inl (cI, 12, .inl (fun _ => 0)))]) := hD
  refine lv_aload_n hx hb dX1_init_20 rfl (lv_at hl 0 rfl) ?_
  refine lv_ldc hx hb hown (hts (.constant RX1 16 (163840)) (by decide +kernel)) dX1_init_21 ?_
  refine va_newa (atype := .boolean) (ty := .boolean) (a0 := (163840, .inl (fun _ => 0))) hx hb (hts (.arrayClass .boolean) (by decide +kernel)) rfl hK hP hD hS hA (fun cA => rfl) (by decide +kernel) (by decide +kernel) (by decide) (Nat.le_of_ble_eq_true rfl) (Nat.le_of_ble_eq_true rfl) dX1_init_23 (fun q23 cZ H hK hP hD hS => ?_)
  have hK : va_K D vwCl [(cI, .int), (cZ, .boolean)] s := hK
  have hP : va_P D vwCl ([(h, .inr (1, [.ref q7, .ref q15, .int 0, .null, .int 0, .long 0, .int 0])), (q7, .inl (cI, 12, .inl (fun _ => 0))), (q15, .inl (cI, 12, .inl (fun _ => 0))), (q23, .inl (cZ, 163840, .inl (fun _ => 0)))]) H := hP
  have hD : va_D _ ([(h, .inr (1, [.ref q7, .ref q15, .int 0, .null, .int 0, .long 0, .int 0])), (q7, .inl (cI, 12, .inl (fun _ => 0))), (q15, .inl (cI, 12, .inl (fun _ => 0))), (q23, .inl (cZ, 163840, .inl (fun _ => 0)))]) := hD
  refine va_putF (D := D) (ci := 1) (v := .ref q23) (ty := (.array .boolean)) (C := RX1) (T := TX1) (N := 7) hx hb hts hin tyX1 tyX1_ok nmX1 hown hK hP hD hS 0 rfl rfl 3 (by decide) (hts (.fieldLink RX1 17 "OddsSamplingModel" "truths" "[Z") (by decide +kernel)) (fun _ h9 => h9) rfl hnm rfl (by decide +kernel) rfl rfl (Nat.le_of_ble_eq_true rfl) dX1_init_25 (fun H locs hP hD hS => ?_)
  have hP : va_P D vwCl ([(h, .inr (1, [.ref q7, .ref q15, .int 0, .ref q23, .int 0, .long 0, .int 0])), (q7, .inl (cI, 12, .inl (fun _ => 0))), (q15, .inl (cI, 12, .inl (fun _ => 0))), (q23, .inl (cZ, 163840, .inl (fun _ => 0)))]) H := hP
  have hD : va_D _ ([(h, .inr (1, [.ref q7, .ref q15, .int 0, .ref q23, .int 0, .long 0, .int 0])), (q7, .inl (cI, 12, .inl (fun _ => 0))), (q15, .inl (cI, 12, .inl (fun _ => 0))), (q23, .inl (cZ, 163840, .inl (fun _ => 0)))]) := hD
  refine W.cs (cells' := 3) (slots' := 163864) rfl rfl ?_
  exact W.vret hx hb hr (fun t ht hW => ⟨⟨(q7, q15, q23, cI, cZ), rfl, trivial, by rw [ht]; exact hP, hD, va_K.moved hW.alike hK⟩, hS.F ht⟩) hS.2.2 dX1_init_28 hlocks
