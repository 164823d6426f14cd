theorem ok_X0_set : yX0_set.cls = RX0 ∧ yX0_set.cls ≠ "java/lang/invoke/MethodHandle" ∧ yX0_set.cls ≠ "java/lang/invoke/VarHandle" ∧ (parseMethodDescriptor yX0_set.desc).map (fun d => d.parameters.length) = some 2 := by decide +kernel
def kvX0_set (fn : Nat) (qn : Nat) (w : Int32) (wo : Int32) : Int32 := if (kvX0_areFacts fn w) = 0 then (-1 : Int32) else (if (kvX0_areFacts fn wo) = 0 then (-1 : Int32) else (if (kvX0_isFull qn) = 0 then (kvX0_keepNext qn) else (-3 : Int32)))
def kvX0_set_an (an : Nat → Int64) (fn : Nat) (qn : Nat) (w : Int32) (wo : Int32) : Nat → Int64 := if (kvX0_areFacts fn w) = 0 then an else (if (kvX0_areFacts fn wo) = 0 then an else (if (kvX0_isFull qn) = 0 then (kl_setA an qn w wo 64) else an))
def kvX0_set_qc (fn : Nat) (qn : Nat) (w : Int32) (wo : Int32) : Int32 := if (kvX0_areFacts fn w) = 0 then (nI qn) else (if (kvX0_areFacts fn wo) = 0 then (nI qn) else (if (kvX0_isFull qn) = 0 then (nI (qn + 1)) else (nI qn)))
set_option maxHeartbeats 4000000 in
set_option maxRecDepth 100000 in
theorem kX0_set (l : Launch) (D : va_G) (cJ : ClassId) (h a1 a2 a3 a4 a5 : Nat) (u d lw uw an : Nat → Int64) (fn qn : Nat) (sd : Int64) (w : Int32) (wo : Int32) : MuI l yX0_set wsX0_set ({ frames := 2, cells := 0, slots := 0, locals := 46 } : Room) [.ref h, .int w, .int wo] D (xW cJ h a1 a2 a3 a4 a5 u d lw uw an (nI fn) (nI qn) sd) [(cJ, .long)] (xW cJ h a1 a2 a3 a4 a5 u d lw uw (kvX0_set_an an fn qn w wo) (nI fn) (kvX0_set_qc fn qn w wo) sd) (kvX0_set fn qn w wo) := by
  intro sz
  refine oo_head (C := RX0) (cc := cX0_set) (maxL := 4) (ret := (some .int)) (by decide) rfl rfl (Nat.le_of_ble_eq_true rfl) ?_
  intro p e s m below meth c hx hb hr hlocks hml hown hnm hts hpre ls hl
  have hl : lv_has ls 4 [(0, .ref h), (1, .int w), (2, .int wo)] := hl
  obtain ⟨rfl, hP, hK, hD0⟩ := hpre
  have hD := hD0.self (sz := s.heap.size)
  have hA := oo_A (xW cJ h a1 a2 a3 a4 a5 u d lw uw an (nI fn) (nI qn) sd) s
  have hS : va_S (va_A (xW cJ h a1 a2 a3 a4 a5 u d lw uw an (nI fn) (nI qn) sd) s.heap.size) s.heap s.heap [] := va_S.rf
  refine lv_aload_n hx hb dX0_set_0 rfl (lv_at hl 0 rfl) ?_
  refine lv_iload_n hx hb dX0_set_1 rfl (lv_at hl 1 rfl) ?_
  refine ro_calli (va_runV (As := [.int w]) (rest := []) ⟨hx, hb, hml, hown, hts⟩ (kX0_areFacts l D cJ h a1 a2 a3 a4 a5 u d lw uw an fn qn sd w) (cwV 1 hts gX0_set_X0_areFacts rfl rfl rfl ok_X0_areFacts ⟨Nat.le_of_ble_eq_true rfl, Nat.le_of_ble_eq_true rfl⟩) ⟨oo_blind, va_recv hK hP (ci := 0) (q0 := 0) rfl rfl, oo_ps hP hK [0, 1, 2, 3, 4, 5] rfl [0] rfl⟩ rfl rfl hl.1 rfl (lv_room (Nat.le_of_ble_eq_true rfl)) dX0_set_2 ⟨Nat.le_of_ble_eq_true rfl, Nat.le_of_ble_eq_true rfl⟩) hP hS (fun H locs hP hS => ?_)
  refine lv_if_eq (tgt := 16) hx hb dX0_set_5 (by decide) (fun c_5 => ?_) (fun c_5 => ?_)
  · refine lv_iconst (v := (-1 : Int32)) hx hb dX0_set_16 (by decide) ?_
    have hP := Eq.mp (congrArg (fun z9 => va_P D vwCl (xW cJ h a1 a2 a3 a4 a5 u d lw uw an (nI fn) z9 sd) H) (show nI qn = kvX0_set_qc fn qn w wo from (by unfold kvX0_set_qc; rw [if_pos c_5]))) hP
    have hP := Eq.mp (congrArg (fun z9 => va_P D vwCl (xW cJ h a1 a2 a3 a4 a5 u d lw uw z9 (nI fn) (kvX0_set_qc fn qn w wo) sd) H) (show an = kvX0_set_an an fn qn w wo from (by unfold kvX0_set_an; rw [if_pos c_5]))) hP
    have hP : va_P D vwCl (xW cJ h a1 a2 a3 a4 a5 u d lw uw (kvX0_set_an an fn qn w wo) (nI fn) (kvX0_set_qc fn qn w wo) sd) H := hP
    have hD : va_D _ (xW cJ h a1 a2 a3 a4 a5 u d lw uw (kvX0_set_an an fn qn w wo) (nI fn) (kvX0_set_qc fn qn w wo) sd) := oo_Dre hD (oo_fc (oo_fc (oo_fc (oo_fc (oo_fc (oo_fc rfl))))))
    exact mu_reti hx hb hr hlocks hP hD hS (by unfold kvX0_set; rw [if_pos c_5]) dX0_set_17
  · refine lv_aload_n hx hb dX0_set_8 rfl (lv_at hl 0 rfl) ?_
    refine lv_iload_n hx hb dX0_set_9 rfl (lv_at hl 2 rfl) ?_
    refine ro_calli (va_runV (As := [.int wo]) (rest := []) ⟨hx, hb, hml, hown, hts⟩ (kX0_areFacts l D cJ h a1 a2 a3 a4 a5 u d lw uw an fn qn sd wo) (cwV 1 hts gX0_set_X0_areFacts rfl rfl rfl ok_X0_areFacts ⟨Nat.le_of_ble_eq_true rfl, Nat.le_of_ble_eq_true rfl⟩) ⟨oo_blind, va_recv hK hP (ci := 0) (q0 := 0) rfl rfl, oo_ps hP hK [0, 1, 2, 3, 4, 5] rfl [0] rfl⟩ rfl rfl hl.1 rfl (lv_room (Nat.le_of_ble_eq_true rfl)) dX0_set_10 ⟨Nat.le_of_ble_eq_true rfl, Nat.le_of_ble_eq_true rfl⟩) hP hS (fun H locs hP hS => ?_)
    refine lv_if_ne (tgt := 18) hx hb dX0_set_13 (by decide) (fun c_13 => ?_) (fun c_13 => ?_)
    · refine lv_aload_n hx hb dX0_set_18 rfl (lv_at hl 0 rfl) ?_
      refine ro_calli (va_runV (As := []) (rest := []) ⟨hx, hb, hml, hown, hts⟩ (kX0_isFull l D cJ h a1 a2 a3 a4 a5 u d lw uw an fn qn sd) (cwV 0 hts gX0_set_X0_isFull rfl rfl rfl ok_X0_isFull ⟨Nat.le_of_ble_eq_true rfl, Nat.le_of_ble_eq_true rfl⟩) ⟨oo_blind, va_recv hK hP (ci := 0) (q0 := 0) rfl rfl, oo_ps hP hK [0, 1, 2, 3, 4, 5] rfl [0] rfl⟩ rfl rfl hl.1 rfl (lv_room (Nat.le_of_ble_eq_true rfl)) dX0_set_19 ⟨Nat.le_of_ble_eq_true rfl, Nat.le_of_ble_eq_true rfl⟩) hP hS (fun H locs hP hS => ?_)
      refine lv_if_eq (tgt := 28) hx hb dX0_set_22 (by decide) (fun c_22 => ?_) (fun c_22 => ?_)
      · refine lv_iconst (v := nI 0) hx hb dX0_set_28 (by decide) ?_
        refine lv_istore_n (lv' := [(3, .int (nI 0)), (0, .ref h), (1, .int w), (2, .int wo)]) hx hb dX0_set_29 rfl hl (by decide) rfl (fun ls hl => ?_)
        have hl : lv_has ls 4 [(0, .ref h), (1, .int w), (2, .int wo), (3, .int (nI 0))] := lv_sub hl [1, 2, 3, 0] rfl
        have hP := Eq.mp (congrArg (fun z9 => va_P D vwCl (xW cJ h a1 a2 a3 a4 a5 u d lw uw z9 (nI fn) (nI qn) sd) H) (show an = kl_setA an qn w wo 0 from (by first | (simp only [kl_setA]; done) | (simp only [kl_setA]; rw [if_neg c_5, if_neg c_13, if_pos c_22])))) hP
        have hP : va_P D vwCl (xW cJ h a1 a2 a3 a4 a5 u d lw uw (kl_setA an qn w wo 0) (nI fn) (nI qn) sd) H := hP
        have hD : va_D _ (xW cJ h a1 a2 a3 a4 a5 u d lw uw (kl_setA an qn w wo 0) (nI fn) (nI qn) sd) := oo_Dre hD (oo_fc (oo_fc (oo_fc (oo_fc (oo_fc (oo_fc rfl))))))
        refine oo_loop (N := 64) (fun n H locs ls => va_P D vwCl (xW cJ h a1 a2 a3 a4 a5 u d lw uw (kl_setA an qn w wo n) (nI fn) (nI qn) sd) H ∧ va_D (va_A (xW cJ h a1 a2 a3 a4 a5 u d lw uw an (nI fn) (nI qn) sd) s.heap.size) (xW cJ h a1 a2 a3 a4 a5 u d lw uw (kl_setA an qn w wo n) (nI fn) (nI qn) sd) ∧ va_S (va_A (xW cJ h a1 a2 a3 a4 a5 u d lw uw an (nI fn) (nI qn) sd) s.heap.size) s.heap H locs ∧ lv_has ls 4 [(0, .ref h), (1, .int w), (2, .int wo), (3, .int (nI n))]) ?_ ?_ 0 (Nat.zero_le _) ⟨hP, hD, hS, hl⟩
        · intro H locs ls hI
          obtain ⟨hP, hD, hS, hl⟩ := hI
          refine lv_iload_n hx hb dX0_set_30 rfl (lv_at hl 3 rfl) ?_
          refine lv_bipush (v := nI 64) hx hb dX0_set_31 (by decide) ?_
          refine lv_icmp_ge (tgt := 53) hx hb dX0_set_33 (by decide) (fun c_33 => ?_) (fun c_33 => ?_)
          · refine lv_aload_n hx hb dX0_set_53 rfl (lv_at hl 0 rfl) ?_
            refine mu_calli (va_runV (As := []) (rest := []) ⟨hx, hb, hml, hown, hts⟩ (kX0_keepNext l D cJ h a1 a2 a3 a4 a5 u d lw uw (kl_setA an qn w wo 64) fn qn sd _) (cwV 0 hts gX0_set_X0_keepNext rfl rfl rfl ok_X0_keepNext ⟨Nat.le_of_ble_eq_true rfl, Nat.le_of_ble_eq_true rfl⟩) ⟨oo_blindM, va_recv hK hP (ci := 0) (q0 := 0) rfl rfl, oo_psM hP hD hK [0, 1, 2, 3, 4, 5] rfl rfl [0] rfl⟩ rfl rfl hl.1 rfl (lv_room (Nat.le_of_ble_eq_true rfl)) dX0_set_54 ⟨Nat.le_of_ble_eq_true rfl, Nat.le_of_ble_eq_true rfl⟩) hP hD hS hA [0, 1, 2, 3, 4, 5] rfl (oo_fc (oo_fc (oo_fc (oo_fc (oo_fc (oo_fc rfl)))))) (fun H locs hP hD hS => ?_)
            have hP : va_P D vwCl (xW cJ h a1 a2 a3 a4 a5 u d lw uw (kl_setA an qn w wo 64) (nI fn) (nI (qn + 1)) sd) H := hP
            have hD : va_D _ (xW cJ h a1 a2 a3 a4 a5 u d lw uw (kl_setA an qn w wo 64) (nI fn) (nI (qn + 1)) sd) := hD
            have hP := Eq.mp (congrArg (fun z9 => va_P D vwCl (xW cJ h a1 a2 a3 a4 a5 u d lw uw (kl_setA an qn w wo 64) (nI fn) z9 sd) H) (show nI (qn + 1) = kvX0_set_qc fn qn w wo from (by unfold kvX0_set_qc; rw [if_neg c_5, if_neg c_13, if_pos c_22]))) hP
            have hP := Eq.mp (congrArg (fun z9 => va_P D vwCl (xW cJ h a1 a2 a3 a4 a5 u d lw uw z9 (nI fn) (kvX0_set_qc fn qn w wo) sd) H) (show (kl_setA an qn w wo 64) = kvX0_set_an an fn qn w wo from (by unfold kvX0_set_an; rw [if_neg c_5, if_neg c_13, if_pos c_22]))) hP
            have hP : va_P D vwCl (xW cJ h a1 a2 a3 a4 a5 u d lw uw (kvX0_set_an an fn qn w wo) (nI fn) (kvX0_set_qc fn qn w wo) sd) H := hP
            have hD : va_D _ (xW cJ h a1 a2 a3 a4 a5 u d lw uw (kvX0_set_an an fn qn w wo) (nI fn) (kvX0_set_qc fn qn w wo) sd) := oo_Dre hD (oo_fc (oo_fc (oo_fc (oo_fc (oo_fc (oo_fc rfl))))))
            exact mu_reti hx hb hr hlocks hP hD hS (by unfold kvX0_set; rw [if_neg c_5, if_neg c_13, if_pos c_22]) dX0_set_57
          · exact absurd (nI_le (Nat.le_refl _) (by omega)) c_33
        · intro n hltn ihn H locs ls hI
          obtain ⟨hP, hD, hS, hl⟩ := hI
          refine lv_iload_n hx hb dX0_set_30 rfl (lv_at hl 3 rfl) ?_
          refine lv_bipush (v := nI 64) hx hb dX0_set_31 (by decide) ?_
          refine lv_icmp_ge (tgt := 53) hx hb dX0_set_33 (by decide) (fun c_33 => ?_) (fun c_33 => ?_)
          · exact absurd c_33 (nI_ge hltn (by omega))
          · refine lv_aload_n hx hb dX0_set_36 rfl (lv_at hl 0 rfl) ?_
            refine lv_iload_n hx hb dX0_set_37 rfl (lv_at hl 3 rfl) ?_
            refine lv_iload_n hx hb dX0_set_38 rfl (lv_at hl 3 rfl) ?_
            refine lv_iload_n hx hb dX0_set_39 rfl (lv_at hl 1 rfl) ?_
            refine lv_iload_n hx hb dX0_set_40 rfl (lv_at hl 2 rfl) ?_
            refine ro_calll (va_runS (As := [.int (nI n), .int w, .int wo]) (rest := [.int (nI n), .ref h]) ⟨hx, hb, hml, hown, hts⟩ (kX0_setBlock l D (nI n) w wo) (va_cwS 3 hts gX0_set_X0_setBlock rfl rfl rfl ok_X0_setBlock ⟨Nat.le_of_ble_eq_true rfl, Nat.le_of_ble_eq_true rfl⟩) ⟨oo_blind, oo_ps hP hK [] rfl [] rfl⟩ rfl rfl hl.1 rfl (lv_room (Nat.le_of_ble_eq_true rfl)) dX0_set_41 ⟨Nat.le_of_ble_eq_true rfl, Nat.le_of_ble_eq_true rfl⟩) hP hS (fun H locs hP hS => ?_)
            refine mu_callv (va_runV (As := [.int (nI n), .long (kvX0_setBlock (nI n) w wo)]) (rest := []) ⟨hx, hb, hml, hown, hts⟩ (kX0_putNextBlock l D cJ h a1 a2 a3 a4 a5 u d lw uw (kl_setA an qn w wo n) fn qn sd (nI n) (kvX0_setBlock (nI n) w wo) _) (cwV 2 hts gX0_set_X0_putNextBlock rfl rfl rfl ok_X0_putNextBlock ⟨Nat.le_of_ble_eq_true rfl, Nat.le_of_ble_eq_true rfl⟩) ⟨oo_blindM, va_recv hK hP (ci := 0) (q0 := 0) rfl rfl, oo_psM hP hD hK [0, 1, 2, 3, 4, 5] rfl rfl [0] rfl⟩ rfl rfl hl.1 rfl (lv_room (Nat.le_of_ble_eq_true rfl)) dX0_set_44 ⟨Nat.le_of_ble_eq_true rfl, Nat.le_of_ble_eq_true rfl⟩) hP hD hS hA [0, 1, 2, 3, 4, 5] rfl (oo_fc (oo_fc (oo_fc (oo_fc (oo_fc (oo_fc rfl)))))) (fun H locs hP hD hS => ?_)
            have hP : va_P D vwCl (xW cJ h a1 a2 a3 a4 a5 u d lw uw (kvX0_put_c0 2560 (kl_setA an qn w wo n) (((nI qn) * (nI 64)) + (nI n)) (kvX0_setBlock (nI n) w wo)) (nI fn) (nI qn) sd) H := hP
            have hD : va_D _ (xW cJ h a1 a2 a3 a4 a5 u d lw uw (kvX0_put_c0 2560 (kl_setA an qn w wo n) (((nI qn) * (nI 64)) + (nI n)) (kvX0_setBlock (nI n) w wo)) (nI fn) (nI qn) sd) := hD
            refine lv_iinc (v := nI (n + 1)) (lv' := [(3, .int (nI (n + 1))), (0, .ref h), (1, .int w), (2, .int wo)]) hx hb dX0_set_47 hl (k := 3) rfl (oo_inc n 1) (by decide) rfl (fun ls hl => ?_)
            refine lv_goto (tgt := 30) hx hb dX0_set_50 (by decide) ?_
            have hl : lv_has ls 4 [(0, .ref h), (1, .int w), (2, .int wo), (3, .int (nI (n + 1)))] := lv_sub hl [1, 2, 3, 0] rfl
            have hP := Eq.mp (congrArg (fun z9 => va_P D vwCl (xW cJ h a1 a2 a3 a4 a5 u d lw uw z9 (nI fn) (nI qn) sd) H) (show kvX0_put_c0 2560 (kl_setA an qn w wo n) (((nI qn) * (nI 64)) + (nI n)) (kvX0_setBlock (nI n) w wo) = kl_setA an qn w wo (n + 1) from (by simp only [kl_setA]))) hP
            have hP : va_P D vwCl (xW cJ h a1 a2 a3 a4 a5 u d lw uw (kl_setA an qn w wo (n + 1)) (nI fn) (nI qn) sd) H := hP
            have hD : va_D _ (xW cJ h a1 a2 a3 a4 a5 u d lw uw (kl_setA an qn w wo (n + 1)) (nI fn) (nI qn) sd) := oo_Dre hD (oo_fc (oo_fc (oo_fc (oo_fc (oo_fc (oo_fc rfl))))))
            exact ihn _ _ _ ⟨hP, hD, hS, hl⟩
      · refine lv_bipush (v := (-3 : Int32)) hx hb dX0_set_25 (by decide) ?_
        have hP := Eq.mp (congrArg (fun z9 => va_P D vwCl (xW cJ h a1 a2 a3 a4 a5 u d lw uw an (nI fn) z9 sd) H) (show nI qn = kvX0_set_qc fn qn w wo from (by unfold kvX0_set_qc; rw [if_neg c_5, if_neg c_13, if_neg c_22]))) hP
        have hP := Eq.mp (congrArg (fun z9 => va_P D vwCl (xW cJ h a1 a2 a3 a4 a5 u d lw uw z9 (nI fn) (kvX0_set_qc fn qn w wo) sd) H) (show an = kvX0_set_an an fn qn w wo from (by unfold kvX0_set_an; rw [if_neg c_5, if_neg c_13, if_neg c_22]))) hP
        have hP : va_P D vwCl (xW cJ h a1 a2 a3 a4 a5 u d lw uw (kvX0_set_an an fn qn w wo) (nI fn) (kvX0_set_qc fn qn w wo) sd) H := hP
        have hD : va_D _ (xW cJ h a1 a2 a3 a4 a5 u d lw uw (kvX0_set_an an fn qn w wo) (nI fn) (kvX0_set_qc fn qn w wo) sd) := oo_Dre hD (oo_fc (oo_fc (oo_fc (oo_fc (oo_fc (oo_fc rfl))))))
        exact mu_reti hx hb hr hlocks hP hD hS (by unfold kvX0_set; rw [if_neg c_5, if_neg c_13, if_neg c_22]) dX0_set_27
    · refine lv_iconst (v := (-1 : Int32)) hx hb dX0_set_16 (by decide) ?_
      have hP := Eq.mp (congrArg (fun z9 => va_P D vwCl (xW cJ h a1 a2 a3 a4 a5 u d lw uw an (nI fn) z9 sd) H) (show nI qn = kvX0_set_qc fn qn w wo from (by unfold kvX0_set_qc; rw [if_neg c_5, if_pos c_13]))) hP
      have hP := Eq.mp (congrArg (fun z9 => va_P D vwCl (xW cJ h a1 a2 a3 a4 a5 u d lw uw z9 (nI fn) (kvX0_set_qc fn qn w wo) sd) H) (show an = kvX0_set_an an fn qn w wo from (by unfold kvX0_set_an; rw [if_neg c_5, if_pos c_13]))) hP
      have hP : va_P D vwCl (xW cJ h a1 a2 a3 a4 a5 u d lw uw (kvX0_set_an an fn qn w wo) (nI fn) (kvX0_set_qc fn qn w wo) sd) H := hP
      have hD : va_D _ (xW cJ h a1 a2 a3 a4 a5 u d lw uw (kvX0_set_an an fn qn w wo) (nI fn) (kvX0_set_qc fn qn w wo) sd) := oo_Dre hD (oo_fc (oo_fc (oo_fc (oo_fc (oo_fc (oo_fc rfl))))))
      exact mu_reti hx hb hr hlocks hP hD hS (by unfold kvX0_set; rw [if_neg c_5, if_pos c_13]) dX0_set_17
theorem ok_X0_some : yX0_some.cls = RX0 ∧ yX0_some.cls ≠ "java/lang/invoke/MethodHandle" ∧ yX0_some.cls ≠ "java/lang/invoke/VarHandle" ∧ (parseMethodDescriptor yX0_some.desc).map (fun d => d.parameters.length) = some 3 := by decide +kernel
def kvX0_some (fn : Nat) (qn : Nat) (fs : Int32) : Int32 := if (kvX0_areFacts fn fs) = 0 then (-1 : Int32) else (if (kvX0_isFull qn) = 0 then (kvX0_keepNext qn) else (-3 : Int32))
def kvX0_some_an (an : Nat → Int64) (fn : Nat) (qn : Nat) (fs : Int32) (lo : Int32) (hi : Int32) : Nat → Int64 := if (kvX0_areFacts fn fs) = 0 then an else (if (kvX0_isFull qn) = 0 then (kl_someA an qn fs lo hi 64) else an)
def kvX0_some_qc (fn : Nat) (qn : Nat) (fs : Int32) : Int32 := if (kvX0_areFacts fn fs) = 0 then (nI qn) else (if (kvX0_isFull qn) = 0 then (nI (qn + 1)) else (nI qn))
set_option maxHeartbeats 4000000 in
set_option maxRecDepth 100000 in
theorem kX0_some (l : Launch) (D : va_G) (cJ : ClassId) (h a1 a2 a3 a4 a5 : Nat) (u d lw uw an : Nat → Int64) (fn qn : Nat) (sd : Int64) (fs : Int32) (lo : Int32) (hi : Int32) : MuI l yX0_some wsX0_some ({ frames := 2, cells := 0, slots := 0, locals := 47 } : Room) [.ref h, .int fs, .int lo, .int hi] D (xW cJ h a1 a2 a3 a4 a5 u d lw uw an (nI fn) (nI qn) sd) [(cJ, .long)] (xW cJ h a1 a2 a3 a4 a5 u d lw uw (kvX0_some_an an fn qn fs lo hi) (nI fn) (kvX0_some_qc fn qn fs) sd) (kvX0_some fn qn fs) := by
  intro sz
  refine oo_head (C := RX0) (cc := cX0_some) (maxL := 5) (ret := (some .int)) (by decide) rfl rfl (Nat.le_of_ble_eq_true rfl) ?_
  intro p e s m below meth c hx hb hr hlocks hml hown hnm hts hpre ls hl
  have hl : lv_has ls 5 [(0, .ref h), (1, .int fs), (2, .int lo), (3, .int hi)] := hl
  obtain ⟨rfl, hP, hK, hD0⟩ := hpre
  have hD := hD0.self (sz := s.heap.size)
  have hA := oo_A (xW cJ h a1 a2 a3 a4 a5 u d lw uw an (nI fn) (nI qn) sd) s
  have hS : va_S (va_A (xW cJ h a1 a2 a3 a4 a5 u d lw uw an (nI fn) (nI qn) sd) s.heap.size) s.heap s.heap [] := va_S.rf
  refine lv_aload_n hx hb dX0_some_0 rfl (lv_at hl 0 rfl) ?_
  refine lv_iload_n hx hb dX0_some_1 rfl (lv_at hl 1 rfl) ?_
  refine ro_calli (va_runV (As := [.int fs]) (rest := []) ⟨hx, hb, hml, hown, hts⟩ (kX0_areFacts l D cJ h a1 a2 a3 a4 a5 u d lw uw an fn qn sd fs) (cwV 1 hts gX0_some_X0_areFacts rfl rfl rfl ok_X0_areFacts ⟨Nat.le_of_ble_eq_true rfl, Nat.le_of_ble_eq_true rfl⟩) ⟨oo_blind, va_recv hK hP (ci := 0) (q0 := 0) rfl rfl, oo_ps hP hK [0, 1, 2, 3, 4, 5] rfl [0] rfl⟩ rfl rfl hl.1 rfl (lv_room (Nat.le_of_ble_eq_true rfl)) dX0_some_2 ⟨Nat.le_of_ble_eq_true rfl, Nat.le_of_ble_eq_true rfl⟩) hP hS (fun H locs hP hS => ?_)
  refine lv_if_ne (tgt := 10) hx hb dX0_some_5 (by decide) (fun c_5 => ?_) (fun c_5 => ?_)
  · refine lv_aload_n hx hb dX0_some_10 rfl (lv_at hl 0 rfl) ?_
    refine ro_calli (va_runV (As := []) (rest := []) ⟨hx, hb, hml, hown, hts⟩ (kX0_isFull l D cJ h a1 a2 a3 a4 a5 u d lw uw an fn qn sd) (cwV 0 hts gX0_some_X0_isFull rfl rfl rfl ok_X0_isFull ⟨Nat.le_of_ble_eq_true rfl, Nat.le_of_ble_eq_true rfl⟩) ⟨oo_blind, va_recv hK hP (ci := 0) (q0 := 0) rfl rfl, oo_ps hP hK [0, 1, 2, 3, 4, 5] rfl [0] rfl⟩ rfl rfl hl.1 rfl (lv_room (Nat.le_of_ble_eq_true rfl)) dX0_some_11 ⟨Nat.le_of_ble_eq_true rfl, Nat.le_of_ble_eq_true rfl⟩) hP hS (fun H locs hP hS => ?_)
    refine lv_if_eq (tgt := 20) hx hb dX0_some_14 (by decide) (fun c_14 => ?_) (fun c_14 => ?_)
    · refine lv_iconst (v := nI 0) hx hb dX0_some_20 (by decide) ?_
      refine lv_istore (lv' := [(4, .int (nI 0)), (0, .ref h), (1, .int fs), (2, .int lo), (3, .int hi)]) hx hb dX0_some_21 hl (by decide) rfl (fun ls hl => ?_)
      have hl : lv_has ls 5 [(0, .ref h), (1, .int fs), (2, .int lo), (3, .int hi), (4, .int (nI 0))] := lv_sub hl [1, 2, 3, 4, 0] rfl
      have hP := Eq.mp (congrArg (fun z9 => va_P D vwCl (xW cJ h a1 a2 a3 a4 a5 u d lw uw z9 (nI fn) (nI qn) sd) H) (show an = kl_someA an qn fs lo hi 0 from (by first | (simp only [kl_someA]; done) | (simp only [kl_someA]; rw [if_neg c_5, if_pos c_14])))) hP
      have hP : va_P D vwCl (xW cJ h a1 a2 a3 a4 a5 u d lw uw (kl_someA an qn fs lo hi 0) (nI fn) (nI qn) sd) H := hP
      have hD : va_D _ (xW cJ h a1 a2 a3 a4 a5 u d lw uw (kl_someA an qn fs lo hi 0) (nI fn) (nI qn) sd) := oo_Dre hD (oo_fc (oo_fc (oo_fc (oo_fc (oo_fc (oo_fc rfl))))))
      refine oo_loop (N := 64) (fun n H locs ls => va_P D vwCl (xW cJ h a1 a2 a3 a4 a5 u d lw uw (kl_someA an qn fs lo hi n) (nI fn) (nI qn) sd) H ∧ va_D (va_A (xW cJ h a1 a2 a3 a4 a5 u d lw uw an (nI fn) (nI qn) sd) s.heap.size) (xW cJ h a1 a2 a3 a4 a5 u d lw uw (kl_someA an qn fs lo hi n) (nI fn) (nI qn) sd) ∧ va_S (va_A (xW cJ h a1 a2 a3 a4 a5 u d lw uw an (nI fn) (nI qn) sd) s.heap.size) s.heap H locs ∧ lv_has ls 5 [(0, .ref h), (1, .int fs), (2, .int lo), (3, .int hi), (4, .int (nI n))]) ?_ ?_ 0 (Nat.zero_le _) ⟨hP, hD, hS, hl⟩
      · intro H locs ls hI
        obtain ⟨hP, hD, hS, hl⟩ := hI
        refine lv_iload hx hb dX0_some_23 (lv_at hl 4 rfl) ?_
        refine lv_bipush (v := nI 64) hx hb dX0_some_25 (by decide) ?_
        refine lv_icmp_ge (tgt := 50) hx hb dX0_some_27 (by decide) (fun c_27 => ?_) (fun c_27 => ?_)
        · refine lv_aload_n hx hb dX0_some_50 rfl (lv_at hl 0 rfl) ?_
          refine mu_calli (va_runV (As := []) (rest := []) ⟨hx, hb, hml, hown, hts⟩ (kX0_keepNext l D cJ h a1 a2 a3 a4 a5 u d lw uw (kl_someA an qn fs lo hi 64) fn qn sd _) (cwV 0 hts gX0_some_X0_keepNext rfl rfl rfl ok_X0_keepNext ⟨Nat.le_of_ble_eq_true rfl, Nat.le_of_ble_eq_true rfl⟩) ⟨oo_blindM, va_recv hK hP (ci := 0) (q0 := 0) rfl rfl, oo_psM hP hD hK [0, 1, 2, 3, 4, 5] rfl rfl [0] rfl⟩ rfl rfl hl.1 rfl (lv_room (Nat.le_of_ble_eq_true rfl)) dX0_some_51 ⟨Nat.le_of_ble_eq_true rfl, Nat.le_of_ble_eq_true rfl⟩) hP hD hS hA [0, 1, 2, 3, 4, 5] rfl (oo_fc (oo_fc (oo_fc (oo_fc (oo_fc (oo_fc rfl)))))) (fun H locs hP hD hS => ?_)
          have hP : va_P D vwCl (xW cJ h a1 a2 a3 a4 a5 u d lw uw (kl_someA an qn fs lo hi 64) (nI fn) (nI (qn + 1)) sd) H := hP
          have hD : va_D _ (xW cJ h a1 a2 a3 a4 a5 u d lw uw (kl_someA an qn fs lo hi 64) (nI fn) (nI (qn + 1)) sd) := hD
          have hP := Eq.mp (congrArg (fun z9 => va_P D vwCl (xW cJ h a1 a2 a3 a4 a5 u d lw uw (kl_someA an qn fs lo hi 64) (nI fn) z9 sd) H) (show nI (qn + 1) = kvX0_some_qc fn qn fs from (by unfold kvX0_some_qc; rw [if_neg c_5, if_pos c_14]))) hP
          have hP := Eq.mp (congrArg (fun z9 => va_P D vwCl (xW cJ h a1 a2 a3 a4 a5 u d lw uw z9 (nI fn) (kvX0_some_qc fn qn fs) sd) H) (show (kl_someA an qn fs lo hi 64) = kvX0_some_an an fn qn fs lo hi from (by unfold kvX0_some_an; rw [if_neg c_5, if_pos c_14]))) hP
          have hP : va_P D vwCl (xW cJ h a1 a2 a3 a4 a5 u d lw uw (kvX0_some_an an fn qn fs lo hi) (nI fn) (kvX0_some_qc fn qn fs) sd) H := hP
          have hD : va_D _ (xW cJ h a1 a2 a3 a4 a5 u d lw uw (kvX0_some_an an fn qn fs lo hi) (nI fn) (kvX0_some_qc fn qn fs) sd) := oo_Dre hD (oo_fc (oo_fc (oo_fc (oo_fc (oo_fc (oo_fc rfl))))))
          exact mu_reti hx hb hr hlocks hP hD hS (by unfold kvX0_some; rw [if_neg c_5, if_pos c_14]) dX0_some_54
        · exact absurd (nI_le (Nat.le_refl _) (by omega)) c_27
      · intro n hltn ihn H locs ls hI
        obtain ⟨hP, hD, hS, hl⟩ := hI
        refine lv_iload hx hb dX0_some_23 (lv_at hl 4 rfl) ?_
        refine lv_bipush (v := nI 64) hx hb dX0_some_25 (by decide) ?_
        refine lv_icmp_ge (tgt := 50) hx hb dX0_some_27 (by decide) (fun c_27 => ?_) (fun c_27 => ?_)
        · exact absurd c_27 (nI_ge hltn (by omega))
        · refine lv_aload_n hx hb dX0_some_30 rfl (lv_at hl 0 rfl) ?_
          refine lv_iload hx hb dX0_some_31 (lv_at hl 4 rfl) ?_
          refine lv_iload hx hb dX0_some_33 (lv_at hl 4 rfl) ?_
          refine lv_iload_n hx hb dX0_some_35 rfl (lv_at hl 1 rfl) ?_
          refine lv_iload_n hx hb dX0_some_36 rfl (lv_at hl 2 rfl) ?_
          refine lv_iload_n hx hb dX0_some_37 rfl (lv_at hl 3 rfl) ?_
          refine ro_calll (va_runS (As := [.int (nI n), .int fs, .int lo, .int hi]) (rest := [.int (nI n), .ref h]) ⟨hx, hb, hml, hown, hts⟩ (kX0_someBlock l D (nI n) fs lo hi) (va_cwS 4 hts gX0_some_X0_someBlock rfl rfl rfl ok_X0_someBlock ⟨Nat.le_of_ble_eq_true rfl, Nat.le_of_ble_eq_true rfl⟩) ⟨oo_blind, oo_ps hP hK [] rfl [] rfl⟩ rfl rfl hl.1 rfl (lv_room (Nat.le_of_ble_eq_true rfl)) dX0_some_38 ⟨Nat.le_of_ble_eq_true rfl, Nat.le_of_ble_eq_true rfl⟩) hP hS (fun H locs hP hS => ?_)
          refine mu_callv (va_runV (As := [.int (nI n), .long (kvX0_someBlock (nI n) fs lo hi)]) (rest := []) ⟨hx, hb, hml, hown, hts⟩ (kX0_putNextBlock l D cJ h a1 a2 a3 a4 a5 u d lw uw (kl_someA an qn fs lo hi n) fn qn sd (nI n) (kvX0_someBlock (nI n) fs lo hi) _) (cwV 2 hts gX0_some_X0_putNextBlock rfl rfl rfl ok_X0_putNextBlock ⟨Nat.le_of_ble_eq_true rfl, Nat.le_of_ble_eq_true rfl⟩) ⟨oo_blindM, va_recv hK hP (ci := 0) (q0 := 0) rfl rfl, oo_psM hP hD hK [0, 1, 2, 3, 4, 5] rfl rfl [0] rfl⟩ rfl rfl hl.1 rfl (lv_room (Nat.le_of_ble_eq_true rfl)) dX0_some_41 ⟨Nat.le_of_ble_eq_true rfl, Nat.le_of_ble_eq_true rfl⟩) hP hD hS hA [0, 1, 2, 3, 4, 5] rfl (oo_fc (oo_fc (oo_fc (oo_fc (oo_fc (oo_fc rfl)))))) (fun H locs hP hD hS => ?_)
          have hP : va_P D vwCl (xW cJ h a1 a2 a3 a4 a5 u d lw uw (kvX0_put_c0 2560 (kl_someA an qn fs lo hi n) (((nI qn) * (nI 64)) + (nI n)) (kvX0_someBlock (nI n) fs lo hi)) (nI fn) (nI qn) sd) H := hP
          have hD : va_D _ (xW cJ h a1 a2 a3 a4 a5 u d lw uw (kvX0_put_c0 2560 (kl_someA an qn fs lo hi n) (((nI qn) * (nI 64)) + (nI n)) (kvX0_someBlock (nI n) fs lo hi)) (nI fn) (nI qn) sd) := hD
          refine lv_iinc (v := nI (n + 1)) (lv' := [(4, .int (nI (n + 1))), (0, .ref h), (1, .int fs), (2, .int lo), (3, .int hi)]) hx hb dX0_some_44 hl (k := 4) rfl (oo_inc n 1) (by decide) rfl (fun ls hl => ?_)
          refine lv_goto (tgt := 23) hx hb dX0_some_47 (by decide) ?_
          have hl : lv_has ls 5 [(0, .ref h), (1, .int fs), (2, .int lo), (3, .int hi), (4, .int (nI (n + 1)))] := lv_sub hl [1, 2, 3, 4, 0] rfl
          have hP := Eq.mp (congrArg (fun z9 => va_P D vwCl (xW cJ h a1 a2 a3 a4 a5 u d lw uw z9 (nI fn) (nI qn) sd) H) (show kvX0_put_c0 2560 (kl_someA an qn fs lo hi n) (((nI qn) * (nI 64)) + (nI n)) (kvX0_someBlock (nI n) fs lo hi) = kl_someA an qn fs lo hi (n + 1) from (by simp only [kl_someA]))) hP
          have hP : va_P D vwCl (xW cJ h a1 a2 a3 a4 a5 u d lw uw (kl_someA an qn fs lo hi (n + 1)) (nI fn) (nI qn) sd) H := hP
          have hD : va_D _ (xW cJ h a1 a2 a3 a4 a5 u d lw uw (kl_someA an qn fs lo hi (n + 1)) (nI fn) (nI qn) sd) := oo_Dre hD (oo_fc (oo_fc (oo_fc (oo_fc (oo_fc (oo_fc rfl))))))
          exact ihn _ _ _ ⟨hP, hD, hS, hl⟩
    · refine lv_bipush (v := (-3 : Int32)) hx hb dX0_some_17 (by decide) ?_
      have hP := Eq.mp (congrArg (fun z9 => va_P D vwCl (xW cJ h a1 a2 a3 a4 a5 u d lw uw an (nI fn) z9 sd) H) (show nI qn = kvX0_some_qc fn qn fs from (by unfold kvX0_some_qc; rw [if_neg c_5, if_neg c_14]))) hP
      have hP := Eq.mp (congrArg (fun z9 => va_P D vwCl (xW cJ h a1 a2 a3 a4 a5 u d lw uw z9 (nI fn) (kvX0_some_qc fn qn fs) sd) H) (show an = kvX0_some_an an fn qn fs lo hi from (by unfold kvX0_some_an; rw [if_neg c_5, if_neg c_14]))) hP
      have hP : va_P D vwCl (xW cJ h a1 a2 a3 a4 a5 u d lw uw (kvX0_some_an an fn qn fs lo hi) (nI fn) (kvX0_some_qc fn qn fs) sd) H := hP
      have hD : va_D _ (xW cJ h a1 a2 a3 a4 a5 u d lw uw (kvX0_some_an an fn qn fs lo hi) (nI fn) (kvX0_some_qc fn qn fs) sd) := oo_Dre hD (oo_fc (oo_fc (oo_fc (oo_fc (oo_fc (oo_fc rfl))))))
      exact mu_reti hx hb hr hlocks hP hD hS (by unfold kvX0_some; rw [if_neg c_5, if_neg c_14]) dX0_some_19
  · refine lv_iconst (v := (-1 : Int32)) hx hb dX0_some_8 (by decide) ?_
    have hP := Eq.mp (congrArg (fun z9 => va_P D vwCl (xW cJ h a1 a2 a3 a4 a5 u d lw uw an (nI fn) z9 sd) H) (show nI qn = kvX0_some_qc fn qn fs from (by unfold kvX0_some_qc; rw [if_pos c_5]))) hP
    have hP := Eq.mp (congrArg (fun z9 => va_P D vwCl (xW cJ h a1 a2 a3 a4 a5 u d lw uw z9 (nI fn) (kvX0_some_qc fn qn fs) sd) H) (show an = kvX0_some_an an fn qn fs lo hi from (by unfold kvX0_some_an; rw [if_pos c_5]))) hP
    have hP : va_P D vwCl (xW cJ h a1 a2 a3 a4 a5 u d lw uw (kvX0_some_an an fn qn fs lo hi) (nI fn) (kvX0_some_qc fn qn fs) sd) H := hP
    have hD : va_D _ (xW cJ h a1 a2 a3 a4 a5 u d lw uw (kvX0_some_an an fn qn fs lo hi) (nI fn) (kvX0_some_qc fn qn fs) sd) := oo_Dre hD (oo_fc (oo_fc (oo_fc (oo_fc (oo_fc (oo_fc rfl))))))
    exact mu_reti hx hb hr hlocks hP hD hS (by unfold kvX0_some; rw [if_pos c_5]) dX0_some_9
