theorem ok_X0_same : yX0_same.cls = RX0 ∧ yX0_same.cls ≠ "java/lang/invoke/MethodHandle" ∧ yX0_same.cls ≠ "java/lang/invoke/VarHandle" ∧ (parseMethodDescriptor yX0_same.desc).map (fun d => d.parameters.length) = some 2 := by decide +kernel
set_option maxHeartbeats 4000000 in
set_option maxRecDepth 100000 in
theorem kX0_same (l : Launch) (D : va_G) (cJ : ClassId) (h a1 a2 a3 a4 a5 : Nat) (u d lw uw an : Nat → Int64) (fn qn : Nat) (sd : Int64) (q : Int32) (r : Int32) : RoI l yX0_same wsX0_same ({ frames := 2, cells := 0, slots := 0, locals := 43 } : Room) [.ref h, .int q, .int r] D (xW cJ h a1 a2 a3 a4 a5 u d lw uw an (nI fn) (nI qn) sd) [(cJ, .long)] (kvX0_same an qn q r) := by
  refine oo_head (C := RX0) (cc := cX0_same) (maxL := 4) (ret := (some .int)) (by decide) rfl rfl (Nat.le_of_ble_eq_true rfl) ?_
  intro p e s m below meth c hx hb hr hlocks hml hown hnm hts hpre ls hl
  have hl : lv_has ls 4 [(0, .ref h), (1, .int q), (2, .int r)] := hl
  obtain ⟨hP, hK⟩ := hpre
  have hS : va_S oo_N s.heap s.heap [] := va_S.rf
  refine lv_aload_n hx hb dX0_same_0 rfl (lv_at hl 0 rfl) ?_
  refine lv_iload_n hx hb dX0_same_1 rfl (lv_at hl 1 rfl) ?_
  refine ro_calli (va_runV (As := [.int q]) (rest := []) ⟨hx, hb, hml, hown, hts⟩ (kX0_isQuestion l D cJ h a1 a2 a3 a4 a5 u d lw uw an fn qn sd q) (cwV 1 hts gX0_same_X0_isQuestion rfl rfl rfl ok_X0_isQuestion ⟨Nat.le_of_ble_eq_true rfl, Nat.le_of_ble_eq_true rfl⟩) ⟨oo_blind, va_recv hK hP (ci := 0) (q0 := 0) rfl rfl, oo_ps hP hK [0, 1, 2, 3, 4, 5] rfl [0] rfl⟩ rfl rfl hl.1 rfl (lv_room (Nat.le_of_ble_eq_true rfl)) dX0_same_2 ⟨Nat.le_of_ble_eq_true rfl, Nat.le_of_ble_eq_true rfl⟩) hP hS (fun H locs hP hS => ?_)
  refine lv_if_eq (tgt := 16) hx hb dX0_same_5 (by decide) (fun c_5 => ?_) (fun c_5 => ?_)
  · refine lv_iconst (v := (-1 : Int32)) hx hb dX0_same_16 (by decide) ?_
    exact ro_reti hx hb hr hlocks hS (by unfold kvX0_same; rw [if_pos c_5]) dX0_same_17
  · refine lv_aload_n hx hb dX0_same_8 rfl (lv_at hl 0 rfl) ?_
    refine lv_iload_n hx hb dX0_same_9 rfl (lv_at hl 2 rfl) ?_
    refine ro_calli (va_runV (As := [.int r]) (rest := []) ⟨hx, hb, hml, hown, hts⟩ (kX0_isQuestion l D cJ h a1 a2 a3 a4 a5 u d lw uw an fn qn sd r) (cwV 1 hts gX0_same_X0_isQuestion rfl rfl rfl ok_X0_isQuestion ⟨Nat.le_of_ble_eq_true rfl, Nat.le_of_ble_eq_true rfl⟩) ⟨oo_blind, va_recv hK hP (ci := 0) (q0 := 0) rfl rfl, oo_ps hP hK [0, 1, 2, 3, 4, 5] rfl [0] rfl⟩ rfl rfl hl.1 rfl (lv_room (Nat.le_of_ble_eq_true rfl)) dX0_same_10 ⟨Nat.le_of_ble_eq_true rfl, Nat.le_of_ble_eq_true rfl⟩) hP hS (fun H locs hP hS => ?_)
    refine lv_if_ne (tgt := 18) hx hb dX0_same_13 (by decide) (fun c_13 => ?_) (fun c_13 => ?_)
    · refine lv_iconst (v := nI 0) hx hb dX0_same_18 (by decide) ?_
      refine lv_istore_n (lv' := [(3, .int (nI 0)), (0, .ref h), (1, .int q), (2, .int r)]) hx hb dX0_same_19 rfl hl (by decide) rfl (fun ls hl => ?_)
      have hl : lv_has ls 4 [(0, .ref h), (1, .int q), (2, .int r), (3, .int (nI 0))] := lv_sub hl [1, 2, 3, 0] rfl
      refine oo_loop (N := 64) (fun n H locs ls => va_P D vwCl (xW cJ h a1 a2 a3 a4 a5 u d lw uw an (nI fn) (nI qn) sd) H ∧ va_S (oo_N) s.heap H locs ∧ lv_has ls 4 [(0, .ref h), (1, .int q), (2, .int r), (3, .int (nI n))] ∧ ∀ k : Nat, k < n → lg_cmp (kvX0_blockOf an qn q (nI k)) (kvX0_blockOf an qn r (nI k)) = 0) ?_ ?_ 0 (Nat.zero_le _) ⟨hP, hS, hl, lt_0⟩
      · intro H locs ls hI
        obtain ⟨hP, hS, hl, hE⟩ := hI
        refine lv_iload_n hx hb dX0_same_20 rfl (lv_at hl 3 rfl) ?_
        refine lv_bipush (v := nI 64) hx hb dX0_same_21 (by decide) ?_
        refine lv_icmp_ge (tgt := 50) hx hb dX0_same_23 (by decide) (fun c_23 => ?_) (fun c_23 => ?_)
        · refine lv_iconst (v := (1 : Int32)) hx hb dX0_same_50 (by decide) ?_
          exact ro_reti hx hb hr hlocks hS (by unfold kvX0_same; rw [if_neg c_5, if_neg c_13, if_pos hE]) dX0_same_51
        · exact absurd (nI_le (Nat.le_refl _) (by omega)) c_23
      · intro n hltn ihn H locs ls hI
        obtain ⟨hP, hS, hl, hE⟩ := hI
        refine lv_iload_n hx hb dX0_same_20 rfl (lv_at hl 3 rfl) ?_
        refine lv_bipush (v := nI 64) hx hb dX0_same_21 (by decide) ?_
        refine lv_icmp_ge (tgt := 50) hx hb dX0_same_23 (by decide) (fun c_23 => ?_) (fun c_23 => ?_)
        · exact absurd c_23 (nI_ge hltn (by omega))
        · refine lv_aload_n hx hb dX0_same_26 rfl (lv_at hl 0 rfl) ?_
          refine lv_iload_n hx hb dX0_same_27 rfl (lv_at hl 1 rfl) ?_
          refine lv_iload_n hx hb dX0_same_28 rfl (lv_at hl 3 rfl) ?_
          refine ro_calll (va_runV (As := [.int q, .int (nI n)]) (rest := []) ⟨hx, hb, hml, hown, hts⟩ (kX0_blockOf l D cJ h a1 a2 a3 a4 a5 u d lw uw an fn qn sd q (nI n)) (cwV 2 hts gX0_same_X0_blockOf rfl rfl rfl ok_X0_blockOf ⟨Nat.le_of_ble_eq_true rfl, Nat.le_of_ble_eq_true rfl⟩) ⟨oo_blind, va_recv hK hP (ci := 0) (q0 := 0) rfl rfl, oo_ps hP hK [0, 1, 2, 3, 4, 5] rfl [0] rfl⟩ rfl rfl hl.1 rfl (lv_room (Nat.le_of_ble_eq_true rfl)) dX0_same_29 ⟨Nat.le_of_ble_eq_true rfl, Nat.le_of_ble_eq_true rfl⟩) hP hS (fun H locs hP hS => ?_)
          refine lv_aload_n hx hb dX0_same_32 rfl (lv_at hl 0 rfl) ?_
          refine lv_iload_n hx hb dX0_same_33 rfl (lv_at hl 2 rfl) ?_
          refine lv_iload_n hx hb dX0_same_34 rfl (lv_at hl 3 rfl) ?_
          refine ro_calll (va_runV (As := [.int r, .int (nI n)]) (rest := [.long (kvX0_blockOf an qn q (nI n))]) ⟨hx, hb, hml, hown, hts⟩ (kX0_blockOf l D cJ h a1 a2 a3 a4 a5 u d lw uw an fn qn sd r (nI n)) (cwV 2 hts gX0_same_X0_blockOf rfl rfl rfl ok_X0_blockOf ⟨Nat.le_of_ble_eq_true rfl, Nat.le_of_ble_eq_true rfl⟩) ⟨oo_blind, va_recv hK hP (ci := 0) (q0 := 0) rfl rfl, oo_ps hP hK [0, 1, 2, 3, 4, 5] rfl [0] rfl⟩ rfl rfl hl.1 rfl (lv_room (Nat.le_of_ble_eq_true rfl)) dX0_same_35 ⟨Nat.le_of_ble_eq_true rfl, Nat.le_of_ble_eq_true rfl⟩) hP hS (fun H locs hP hS => ?_)
          refine W.lcmp hx hb dX0_same_38 ?_
          refine lv_if_eq (tgt := 44) hx hb dX0_same_39 (by decide) (fun c_39 => ?_) (fun c_39 => ?_)
          · refine lv_iinc (v := nI (n + 1)) (lv' := [(3, .int (nI (n + 1))), (0, .ref h), (1, .int q), (2, .int r)]) hx hb dX0_same_44 hl (k := 3) rfl (oo_inc n 1) (by decide) rfl (fun ls hl => ?_)
            refine lv_goto (tgt := 20) hx hb dX0_same_47 (by decide) ?_
            have hl : lv_has ls 4 [(0, .ref h), (1, .int q), (2, .int r), (3, .int (nI (n + 1)))] := lv_sub hl [1, 2, 3, 0] rfl
            exact ihn _ _ _ ⟨hP, hS, hl, lt_s hE c_39⟩
          · refine lv_iconst (v := (0 : Int32)) hx hb dX0_same_42 (by decide) ?_
            exact ro_reti hx hb hr hlocks hS (by unfold kvX0_same; rw [if_neg c_5, if_neg c_13, if_neg (fun h => c_39 (h n hltn))]) dX0_same_43
    · refine lv_iconst (v := (-1 : Int32)) hx hb dX0_same_16 (by decide) ?_
      exact ro_reti hx hb hr hlocks hS (by unfold kvX0_same; rw [if_neg c_5, if_pos c_13]) dX0_same_17
def kl_lcg (sd : Int64) : Int64 := (sd * (25214903917 : Int64) + (11 : Int64)) &&& (281474976710655 : Int64)
