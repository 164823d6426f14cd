theorem ok_X0_joined : yX0_joined.cls ≠ "java/lang/invoke/MethodHandle" ∧ yX0_joined.cls ≠ "java/lang/invoke/VarHandle" ∧ (parseMethodDescriptor yX0_joined.desc).map (fun d => d.parameters.length) = some 3 := by decide +kernel
def kvX0_joined (op : Int32) (x y : Int64) : Int64 := if op = 0 then x &&& y else if op = 1 then x ||| y else if op = 2 then x ^^^ y else x ^^^ (-1)
theorem oo_out02 {x : Int32} (h0 : ¬ x = 0) (h1 : ¬ x = 1) (h2 : ¬ x = 2) : x.toInt < 0 ∨ 2 < x.toInt := by
  have g0 : ¬ x.toInt = 0 := lv_neT h0 rfl
  have g1 : ¬ x.toInt = 1 := lv_neT h1 rfl
  have g2 : ¬ x.toInt = 2 := lv_neT h2 rfl
  omega
set_option maxHeartbeats 4000000 in
set_option maxRecDepth 100000 in
theorem kX0_joined (l : Launch) (D : va_G) (op : Int32) (x y : Int64) : RoL l yX0_joined wsX0_joined ({ frames := 0, cells := 0, slots := 0, locals := 0 } : Room) [.int op, .long x, .long y] D ([]) [] (kvX0_joined op x y) := by
  refine oo_head (C := RX0) (cc := cX0_joined) (maxL := 5) (ret := (some .long)) (by decide) rfl rfl (Nat.le_of_ble_eq_true rfl) ?_
  intro p e s m below meth c hx hb hr hlocks hml hown hnm hts hpre ls hl
  have hl : lv_has ls 5 [(0, .int op), (1, .long x), (3, .long y)] := hl
  obtain ⟨hP, hK⟩ := hpre
  have hS : va_S oo_N s.heap s.heap [] := va_S.rf
  refine lv_iload_n hx hb dX0_joined_0 rfl (lv_at hl 0 rfl) ?_
  by_cases h0 : op = 0
  · subst h0
    refine lv_tableIn (off := 27) (tgt := 28) hx hb dX0_joined_1 (by decide) (by decide) (by decide) (by decide) ?_
    refine lv_lload_n hx hb dX0_joined_28 rfl (lv_at hl 1 rfl) ?_
    refine lv_lload_n hx hb dX0_joined_29 rfl (lv_at hl 2 rfl) ?_
    refine lv_land hx hb dX0_joined_30 ?_
    exact ro_retl hx hb hr hlocks hS rfl dX0_joined_31
  by_cases h1 : op = 1
  · subst h1
    refine lv_tableIn (off := 31) (tgt := 32) hx hb dX0_joined_1 (by decide) (by decide) (by decide) (by decide) ?_
    refine lv_lload_n hx hb dX0_joined_32 rfl (lv_at hl 1 rfl) ?_
    refine lv_lload_n hx hb dX0_joined_33 rfl (lv_at hl 2 rfl) ?_
    refine lv_lor hx hb dX0_joined_34 ?_
    exact ro_retl hx hb hr hlocks hS rfl dX0_joined_35
  by_cases h2 : op = 2
  · subst h2
    refine lv_tableIn (off := 35) (tgt := 36) hx hb dX0_joined_1 (by decide) (by decide) (by decide) (by decide) ?_
    refine lv_lload_n hx hb dX0_joined_36 rfl (lv_at hl 1 rfl) ?_
    refine lv_lload_n hx hb dX0_joined_37 rfl (lv_at hl 2 rfl) ?_
    refine lv_lxor hx hb dX0_joined_38 ?_
    exact ro_retl hx hb hr hlocks hS rfl dX0_joined_39
  · refine lv_tableOut (tgt := 40) hx hb dX0_joined_1 (oo_out02 h0 h1 h2) (by decide) ?_
    refine lv_lload_n hx hb dX0_joined_40 rfl (lv_at hl 1 rfl) ?_
    refine lv_ldc2 hx hb hown (hts (.constantLong RX0 98 (-1)) (by decide +kernel)) dX0_joined_41 ?_
    refine lv_lxor hx hb dX0_joined_44 ?_
    exact ro_retl hx hb hr hlocks hS (by unfold kvX0_joined; rw [if_neg h0, if_neg h1, if_neg h2]) dX0_joined_45
def kl_joinA (an : Nat → Int64) (qn : Nat) (op q r : Int32) : Nat → Nat → Int64
  | 0 => an
  | n + 1 => kvX0_put_c0 2560 (kl_joinA an qn op q r n) (nI qn * nI 64 + nI n) (kvX0_joined op (kvX0_blockOf (kl_joinA an qn op q r n) qn q (nI n)) (kvX0_blockOf (kl_joinA an qn op q r n) qn r (nI n)))
theorem ok_X0_join : yX0_join.cls = RX0 ∧ yX0_join.cls ≠ "java/lang/invoke/MethodHandle" ∧ yX0_join.cls ≠ "java/lang/invoke/VarHandle" ∧ (parseMethodDescriptor yX0_join.desc).map (fun d => d.parameters.length) = some 3 := by decide +kernel
def kvX0_join (qn : Nat) (op : Int32) (q : Int32) (r : Int32) : Int32 := if op < 0 then (-1 : Int32) else (if (3 : Int32) < op then (-1 : Int32) else (if (kvX0_isQuestion qn q) = 0 then (-1 : Int32) else (if op = (3 : Int32) then (if (kvX0_isFull qn) = 0 then (kvX0_keepNext qn) else (-3 : Int32)) else (if (kvX0_isQuestion qn r) = 0 then (-1 : Int32) else (if (kvX0_isFull qn) = 0 then (kvX0_keepNext qn) else (-3 : Int32))))))
def kvX0_join_an (an : Nat → Int64) (qn : Nat) (op : Int32) (q : Int32) (r : Int32) : Nat → Int64 := if op < 0 then an else (if (3 : Int32) < op then an else (if (kvX0_isQuestion qn q) = 0 then an else (if op = (3 : Int32) then (if (kvX0_isFull qn) = 0 then (kl_joinA an qn op q r 64) else an) else (if (kvX0_isQuestion qn r) = 0 then an else (if (kvX0_isFull qn) = 0 then (kl_joinA an qn op q r 64) else an)))))
def kvX0_join_qc (qn : Nat) (op : Int32) (q : Int32) (r : Int32) : Int32 := if op < 0 then (nI qn) else (if (3 : Int32) < op then (nI qn) else (if (kvX0_isQuestion qn q) = 0 then (nI qn) else (if op = (3 : Int32) then (if (kvX0_isFull qn) = 0 then (nI (qn + 1)) else (nI qn)) else (if (kvX0_isQuestion qn r) = 0 then (nI qn) else (if (kvX0_isFull qn) = 0 then (nI (qn + 1)) else (nI qn))))))
set_option maxHeartbeats 4000000 in
set_option maxRecDepth 100000 in
theorem kX0_join (l : Launch) (D : va_G) (cJ : ClassId) (h a1 a2 a3 a4 a5 : Nat) (u d lw uw an : Nat → Int64) (fn qn : Nat) (sd : Int64) (op : Int32) (q : Int32) (r : Int32) : MuI l yX0_join wsX0_join ({ frames := 2, cells := 0, slots := 0, locals := 46 } : Room) [.ref h, .int op, .int q, .int r] D (xW cJ h a1 a2 a3 a4 a5 u d lw uw an (nI fn) (nI qn) sd) [(cJ, .long)] (xW cJ h a1 a2 a3 a4 a5 u d lw uw (kvX0_join_an an qn op q r) (nI fn) (kvX0_join_qc qn op q r) sd) (kvX0_join qn op q r) := by
  intro sz
  refine oo_head (C := RX0) (cc := cX0_join) (maxL := 5) (ret := (some .int)) (by decide) rfl rfl (Nat.le_of_ble_eq_true rfl) ?_
  intro p e s m below meth c hx hb hr hlocks hml hown hnm hts hpre ls hl
  have hl : lv_has ls 5 [(0, .ref h), (1, .int op), (2, .int q), (3, .int r)] := hl
  obtain ⟨rfl, hP, hK, hD0⟩ := hpre
  have hD := hD0.self (sz := s.heap.size)
  have hA := oo_A (xW cJ h a1 a2 a3 a4 a5 u d lw uw an (nI fn) (nI qn) sd) s
  have hS : va_S (va_A (xW cJ h a1 a2 a3 a4 a5 u d lw uw an (nI fn) (nI qn) sd) s.heap.size) s.heap s.heap [] := va_S.rf
  refine lv_iload_n hx hb dX0_join_0 rfl (lv_at hl 1 rfl) ?_
  refine lv_if_lt (tgt := 17) hx hb dX0_join_1 (by decide) (fun c_1 => ?_) (fun c_1 => ?_)
  · refine lv_iconst (v := (-1 : Int32)) hx hb dX0_join_17 (by decide) ?_
    have hP := Eq.mp (congrArg (fun z9 => va_P D vwCl (xW cJ h a1 a2 a3 a4 a5 u d lw uw an (nI fn) z9 sd) s.heap) (show nI qn = kvX0_join_qc qn op q r from (by unfold kvX0_join_qc; rw [if_pos c_1]))) hP
    have hP := Eq.mp (congrArg (fun z9 => va_P D vwCl (xW cJ h a1 a2 a3 a4 a5 u d lw uw z9 (nI fn) (kvX0_join_qc qn op q r) sd) s.heap) (show an = kvX0_join_an an qn op q r from (by unfold kvX0_join_an; rw [if_pos c_1]))) hP
    have hP : va_P D vwCl (xW cJ h a1 a2 a3 a4 a5 u d lw uw (kvX0_join_an an qn op q r) (nI fn) (kvX0_join_qc qn op q r) sd) s.heap := hP
    have hD : va_D _ (xW cJ h a1 a2 a3 a4 a5 u d lw uw (kvX0_join_an an qn op q r) (nI fn) (kvX0_join_qc qn op q r) sd) := oo_Dre hD (oo_fc (oo_fc (oo_fc (oo_fc (oo_fc (oo_fc rfl))))))
    exact mu_reti hx hb hr hlocks hP hD hS (by unfold kvX0_join; rw [if_pos c_1]) dX0_join_18
  · refine lv_iload_n hx hb dX0_join_4 rfl (lv_at hl 1 rfl) ?_
    refine lv_iconst (v := (3 : Int32)) hx hb dX0_join_5 (by decide) ?_
    refine lv_icmp_gt (tgt := 17) hx hb dX0_join_6 (by decide) (fun c_6 => ?_) (fun c_6 => ?_)
    · refine lv_iconst (v := (-1 : Int32)) hx hb dX0_join_17 (by decide) ?_
      have hP := Eq.mp (congrArg (fun z9 => va_P D vwCl (xW cJ h a1 a2 a3 a4 a5 u d lw uw an (nI fn) z9 sd) s.heap) (show nI qn = kvX0_join_qc qn op q r from (by unfold kvX0_join_qc; rw [if_neg c_1, if_pos c_6]))) hP
      have hP := Eq.mp (congrArg (fun z9 => va_P D vwCl (xW cJ h a1 a2 a3 a4 a5 u d lw uw z9 (nI fn) (kvX0_join_qc qn op q r) sd) s.heap) (show an = kvX0_join_an an qn op q r from (by unfold kvX0_join_an; rw [if_neg c_1, if_pos c_6]))) hP
      have hP : va_P D vwCl (xW cJ h a1 a2 a3 a4 a5 u d lw uw (kvX0_join_an an qn op q r) (nI fn) (kvX0_join_qc qn op q r) sd) s.heap := hP
      have hD : va_D _ (xW cJ h a1 a2 a3 a4 a5 u d lw uw (kvX0_join_an an qn op q r) (nI fn) (kvX0_join_qc qn op q r) sd) := oo_Dre hD (oo_fc (oo_fc (oo_fc (oo_fc (oo_fc (oo_fc rfl))))))
      exact mu_reti hx hb hr hlocks hP hD hS (by unfold kvX0_join; rw [if_neg c_1, if_pos c_6]) dX0_join_18
    · refine lv_aload_n hx hb dX0_join_9 rfl (lv_at hl 0 rfl) ?_
      refine lv_iload_n hx hb dX0_join_10 rfl (lv_at hl 2 rfl) ?_
      refine ro_calli (va_runV (As := [.int q]) (rest := []) ⟨hx, hb, hml, hown, hts⟩ (kX0_isQuestion l D cJ h a1 a2 a3 a4 a5 u d lw uw an fn qn sd q) (cwV 1 hts gX0_join_X0_isQuestion rfl rfl rfl ok_X0_isQuestion ⟨Nat.le_of_ble_eq_true rfl, Nat.le_of_ble_eq_true rfl⟩) ⟨oo_blind, va_recv hK hP (ci := 0) (q0 := 0) rfl rfl, oo_ps hP hK [0, 1, 2, 3, 4, 5] rfl [0] rfl⟩ rfl rfl hl.1 rfl (lv_room (Nat.le_of_ble_eq_true rfl)) dX0_join_11 ⟨Nat.le_of_ble_eq_true rfl, Nat.le_of_ble_eq_true rfl⟩) hP hS (fun H locs hP hS => ?_)
      refine lv_if_ne (tgt := 19) hx hb dX0_join_14 (by decide) (fun c_14 => ?_) (fun c_14 => ?_)
      · refine lv_iload_n hx hb dX0_join_19 rfl (lv_at hl 1 rfl) ?_
        refine lv_iconst (v := (3 : Int32)) hx hb dX0_join_20 (by decide) ?_
        refine lv_icmp_eq (tgt := 34) hx hb dX0_join_21 (by decide) (fun c_21 => ?_) (fun c_21 => ?_)
        · refine lv_aload_n hx hb dX0_join_34 rfl (lv_at hl 0 rfl) ?_
          refine ro_calli (va_runV (As := []) (rest := []) ⟨hx, hb, hml, hown, hts⟩ (kX0_isFull l D cJ h a1 a2 a3 a4 a5 u d lw uw an fn qn sd) (cwV 0 hts gX0_join_X0_isFull rfl rfl rfl ok_X0_isFull ⟨Nat.le_of_ble_eq_true rfl, Nat.le_of_ble_eq_true rfl⟩) ⟨oo_blind, va_recv hK hP (ci := 0) (q0 := 0) rfl rfl, oo_ps hP hK [0, 1, 2, 3, 4, 5] rfl [0] rfl⟩ rfl rfl hl.1 rfl (lv_room (Nat.le_of_ble_eq_true rfl)) dX0_join_35 ⟨Nat.le_of_ble_eq_true rfl, Nat.le_of_ble_eq_true rfl⟩) hP hS (fun H locs hP hS => ?_)
          refine lv_if_eq (tgt := 44) hx hb dX0_join_38 (by decide) (fun c_38 => ?_) (fun c_38 => ?_)
          · refine lv_iconst (v := nI 0) hx hb dX0_join_44 (by decide) ?_
            refine lv_istore (lv' := [(4, .int (nI 0)), (0, .ref h), (1, .int op), (2, .int q), (3, .int r)]) hx hb dX0_join_45 hl (by decide) rfl (fun ls hl => ?_)
            have hl : lv_has ls 5 [(0, .ref h), (1, .int op), (2, .int q), (3, .int r), (4, .int (nI 0))] := lv_sub hl [1, 2, 3, 4, 0] rfl
            have hP := Eq.mp (congrArg (fun z9 => va_P D vwCl (xW cJ h a1 a2 a3 a4 a5 u d lw uw z9 (nI fn) (nI qn) sd) H) (show an = kl_joinA an qn op q r 0 from (by first | (simp only [kl_joinA]; done) | (simp only [kl_joinA]; rw [if_neg c_1, if_neg c_6, if_neg c_14, if_pos c_21, if_pos c_38])))) hP
            have hP : va_P D vwCl (xW cJ h a1 a2 a3 a4 a5 u d lw uw (kl_joinA an qn op q r 0) (nI fn) (nI qn) sd) H := hP
            have hD : va_D _ (xW cJ h a1 a2 a3 a4 a5 u d lw uw (kl_joinA an qn op q r 0) (nI fn) (nI qn) sd) := oo_Dre hD (oo_fc (oo_fc (oo_fc (oo_fc (oo_fc (oo_fc rfl))))))
            refine oo_loop (N := 64) (fun n H locs ls => va_P D vwCl (xW cJ h a1 a2 a3 a4 a5 u d lw uw (kl_joinA an qn op q r n) (nI fn) (nI qn) sd) H ∧ va_D (va_A (xW cJ h a1 a2 a3 a4 a5 u d lw uw an (nI fn) (nI qn) sd) s.heap.size) (xW cJ h a1 a2 a3 a4 a5 u d lw uw (kl_joinA an qn op q r n) (nI fn) (nI qn) sd) ∧ va_S (va_A (xW cJ h a1 a2 a3 a4 a5 u d lw uw an (nI fn) (nI qn) sd) s.heap.size) s.heap H locs ∧ lv_has ls 5 [(0, .ref h), (1, .int op), (2, .int q), (3, .int r), (4, .int (nI n))]) ?_ ?_ 0 (Nat.zero_le _) ⟨hP, hD, hS, hl⟩
            · intro H locs ls hI
              obtain ⟨hP, hD, hS, hl⟩ := hI
              refine lv_iload hx hb dX0_join_47 (lv_at hl 4 rfl) ?_
              refine lv_bipush (v := nI 64) hx hb dX0_join_49 (by decide) ?_
              refine lv_icmp_ge (tgt := 84) hx hb dX0_join_51 (by decide) (fun c_51 => ?_) (fun c_51 => ?_)
              · refine lv_aload_n hx hb dX0_join_84 rfl (lv_at hl 0 rfl) ?_
                refine mu_calli (va_runV (As := []) (rest := []) ⟨hx, hb, hml, hown, hts⟩ (kX0_keepNext l D cJ h a1 a2 a3 a4 a5 u d lw uw (kl_joinA an qn op q r 64) fn qn sd _) (cwV 0 hts gX0_join_X0_keepNext rfl rfl rfl ok_X0_keepNext ⟨Nat.le_of_ble_eq_true rfl, Nat.le_of_ble_eq_true rfl⟩) ⟨oo_blindM, va_recv hK hP (ci := 0) (q0 := 0) rfl rfl, oo_psM hP hD hK [0, 1, 2, 3, 4, 5] rfl rfl [0] rfl⟩ rfl rfl hl.1 rfl (lv_room (Nat.le_of_ble_eq_true rfl)) dX0_join_85 ⟨Nat.le_of_ble_eq_true rfl, Nat.le_of_ble_eq_true rfl⟩) hP hD hS hA [0, 1, 2, 3, 4, 5] rfl (oo_fc (oo_fc (oo_fc (oo_fc (oo_fc (oo_fc rfl)))))) (fun H locs hP hD hS => ?_)
                have hP : va_P D vwCl (xW cJ h a1 a2 a3 a4 a5 u d lw uw (kl_joinA an qn op q r 64) (nI fn) (nI (qn + 1)) sd) H := hP
                have hD : va_D _ (xW cJ h a1 a2 a3 a4 a5 u d lw uw (kl_joinA an qn op q r 64) (nI fn) (nI (qn + 1)) sd) := hD
                have hP := Eq.mp (congrArg (fun z9 => va_P D vwCl (xW cJ h a1 a2 a3 a4 a5 u d lw uw (kl_joinA an qn op q r 64) (nI fn) z9 sd) H) (show nI (qn + 1) = kvX0_join_qc qn op q r from (by unfold kvX0_join_qc; rw [if_neg c_1, if_neg c_6, if_neg c_14, if_pos c_21, if_pos c_38]))) hP
                have hP := Eq.mp (congrArg (fun z9 => va_P D vwCl (xW cJ h a1 a2 a3 a4 a5 u d lw uw z9 (nI fn) (kvX0_join_qc qn op q r) sd) H) (show (kl_joinA an qn op q r 64) = kvX0_join_an an qn op q r from (by unfold kvX0_join_an; rw [if_neg c_1, if_neg c_6, if_neg c_14, if_pos c_21, if_pos c_38]))) hP
                have hP : va_P D vwCl (xW cJ h a1 a2 a3 a4 a5 u d lw uw (kvX0_join_an an qn op q r) (nI fn) (kvX0_join_qc qn op q r) sd) H := hP
                have hD : va_D _ (xW cJ h a1 a2 a3 a4 a5 u d lw uw (kvX0_join_an an qn op q r) (nI fn) (kvX0_join_qc qn op q r) sd) := oo_Dre hD (oo_fc (oo_fc (oo_fc (oo_fc (oo_fc (oo_fc rfl))))))
                exact mu_reti hx hb hr hlocks hP hD hS (by unfold kvX0_join; rw [if_neg c_1, if_neg c_6, if_neg c_14, if_pos c_21, if_pos c_38]) dX0_join_88
              · exact absurd (nI_le (Nat.le_refl _) (by omega)) c_51
            · intro n hltn ihn H locs ls hI
              obtain ⟨hP, hD, hS, hl⟩ := hI
              refine lv_iload hx hb dX0_join_47 (lv_at hl 4 rfl) ?_
              refine lv_bipush (v := nI 64) hx hb dX0_join_49 (by decide) ?_
              refine lv_icmp_ge (tgt := 84) hx hb dX0_join_51 (by decide) (fun c_51 => ?_) (fun c_51 => ?_)
              · exact absurd c_51 (nI_ge hltn (by omega))
              · refine lv_aload_n hx hb dX0_join_54 rfl (lv_at hl 0 rfl) ?_
                refine lv_iload hx hb dX0_join_55 (lv_at hl 4 rfl) ?_
                refine lv_iload_n hx hb dX0_join_57 rfl (lv_at hl 1 rfl) ?_
                refine lv_aload_n hx hb dX0_join_58 rfl (lv_at hl 0 rfl) ?_
                refine lv_iload_n hx hb dX0_join_59 rfl (lv_at hl 2 rfl) ?_
                refine lv_iload hx hb dX0_join_60 (lv_at hl 4 rfl) ?_
                refine ro_calll (va_runV (As := [.int q, .int (nI n)]) (rest := [.int op, .int (nI n), .ref h]) ⟨hx, hb, hml, hown, hts⟩ (kX0_blockOf l D cJ h a1 a2 a3 a4 a5 u d lw uw (kl_joinA an qn op q r n) fn qn sd q (nI n)) (cwV 2 hts gX0_join_X0_blockOf rfl rfl rfl ok_X0_blockOf ⟨Nat.le_of_ble_eq_true rfl, Nat.le_of_ble_eq_true rfl⟩) ⟨oo_blind, va_recv hK hP (ci := 0) (q0 := 0) rfl rfl, oo_ps hP hK [0, 1, 2, 3, 4, 5] rfl [0] rfl⟩ rfl rfl hl.1 rfl (lv_room (Nat.le_of_ble_eq_true rfl)) dX0_join_62 ⟨Nat.le_of_ble_eq_true rfl, Nat.le_of_ble_eq_true rfl⟩) hP hS (fun H locs hP hS => ?_)
                refine lv_aload_n hx hb dX0_join_65 rfl (lv_at hl 0 rfl) ?_
                refine lv_iload_n hx hb dX0_join_66 rfl (lv_at hl 3 rfl) ?_
                refine lv_iload hx hb dX0_join_67 (lv_at hl 4 rfl) ?_
                refine ro_calll (va_runV (As := [.int r, .int (nI n)]) (rest := [.long (kvX0_blockOf (kl_joinA an qn op q r n) qn q (nI n)), .int op, .int (nI n), .ref h]) ⟨hx, hb, hml, hown, hts⟩ (kX0_blockOf l D cJ h a1 a2 a3 a4 a5 u d lw uw (kl_joinA an qn op q r n) fn qn sd r (nI n)) (cwV 2 hts gX0_join_X0_blockOf rfl rfl rfl ok_X0_blockOf ⟨Nat.le_of_ble_eq_true rfl, Nat.le_of_ble_eq_true rfl⟩) ⟨oo_blind, va_recv hK hP (ci := 0) (q0 := 0) rfl rfl, oo_ps hP hK [0, 1, 2, 3, 4, 5] rfl [0] rfl⟩ rfl rfl hl.1 rfl (lv_room (Nat.le_of_ble_eq_true rfl)) dX0_join_69 ⟨Nat.le_of_ble_eq_true rfl, Nat.le_of_ble_eq_true rfl⟩) hP hS (fun H locs hP hS => ?_)
                refine ro_calll (va_runS (As := [.int op, .long (kvX0_blockOf (kl_joinA an qn op q r n) qn q (nI n)), .long (kvX0_blockOf (kl_joinA an qn op q r n) qn r (nI n))]) (rest := [.int (nI n), .ref h]) ⟨hx, hb, hml, hown, hts⟩ (kX0_joined l D op (kvX0_blockOf (kl_joinA an qn op q r n) qn q (nI n)) (kvX0_blockOf (kl_joinA an qn op q r n) qn r (nI n))) (va_cwS 3 hts gX0_join_X0_joined rfl rfl rfl ok_X0_joined ⟨Nat.le_of_ble_eq_true rfl, Nat.le_of_ble_eq_true rfl⟩) ⟨oo_blind, oo_ps hP hK [] rfl [] rfl⟩ rfl rfl hl.1 rfl (lv_room (Nat.le_of_ble_eq_true rfl)) dX0_join_72 ⟨Nat.le_of_ble_eq_true rfl, Nat.le_of_ble_eq_true rfl⟩) hP hS (fun H locs hP hS => ?_)
                refine mu_callv (va_runV (As := [.int (nI n), .long (kvX0_joined op (kvX0_blockOf (kl_joinA an qn op q r n) qn q (nI n)) (kvX0_blockOf (kl_joinA an qn op q r n) qn r (nI n)))]) (rest := []) ⟨hx, hb, hml, hown, hts⟩ (kX0_putNextBlock l D cJ h a1 a2 a3 a4 a5 u d lw uw (kl_joinA an qn op q r n) fn qn sd (nI n) (kvX0_joined op (kvX0_blockOf (kl_joinA an qn op q r n) qn q (nI n)) (kvX0_blockOf (kl_joinA an qn op q r n) qn r (nI n))) _) (cwV 2 hts gX0_join_X0_putNextBlock rfl rfl rfl ok_X0_putNextBlock ⟨Nat.le_of_ble_eq_true rfl, Nat.le_of_ble_eq_true rfl⟩) ⟨oo_blindM, va_recv hK hP (ci := 0) (q0 := 0) rfl rfl, oo_psM hP hD hK [0, 1, 2, 3, 4, 5] rfl rfl [0] rfl⟩ rfl rfl hl.1 rfl (lv_room (Nat.le_of_ble_eq_true rfl)) dX0_join_75 ⟨Nat.le_of_ble_eq_true rfl, Nat.le_of_ble_eq_true rfl⟩) hP hD hS hA [0, 1, 2, 3, 4, 5] rfl (oo_fc (oo_fc (oo_fc (oo_fc (oo_fc (oo_fc rfl)))))) (fun H locs hP hD hS => ?_)
                have hP : va_P D vwCl (xW cJ h a1 a2 a3 a4 a5 u d lw uw (kvX0_put_c0 2560 (kl_joinA an qn op q r n) (((nI qn) * (nI 64)) + (nI n)) (kvX0_joined op (kvX0_blockOf (kl_joinA an qn op q r n) qn q (nI n)) (kvX0_blockOf (kl_joinA an qn op q r n) qn r (nI n)))) (nI fn) (nI qn) sd) H := hP
                have hD : va_D _ (xW cJ h a1 a2 a3 a4 a5 u d lw uw (kvX0_put_c0 2560 (kl_joinA an qn op q r n) (((nI qn) * (nI 64)) + (nI n)) (kvX0_joined op (kvX0_blockOf (kl_joinA an qn op q r n) qn q (nI n)) (kvX0_blockOf (kl_joinA an qn op q r n) qn r (nI n)))) (nI fn) (nI qn) sd) := hD
                refine lv_iinc (v := nI (n + 1)) (lv' := [(4, .int (nI (n + 1))), (0, .ref h), (1, .int op), (2, .int q), (3, .int r)]) hx hb dX0_join_78 hl (k := 4) rfl (oo_inc n 1) (by decide) rfl (fun ls hl => ?_)
                refine lv_goto (tgt := 47) hx hb dX0_join_81 (by decide) ?_
                have hl : lv_has ls 5 [(0, .ref h), (1, .int op), (2, .int q), (3, .int r), (4, .int (nI (n + 1)))] := lv_sub hl [1, 2, 3, 4, 0] rfl
                have hP := Eq.mp (congrArg (fun z9 => va_P D vwCl (xW cJ h a1 a2 a3 a4 a5 u d lw uw z9 (nI fn) (nI qn) sd) H) (show kvX0_put_c0 2560 (kl_joinA an qn op q r n) (((nI qn) * (nI 64)) + (nI n)) (kvX0_joined op (kvX0_blockOf (kl_joinA an qn op q r n) qn q (nI n)) (kvX0_blockOf (kl_joinA an qn op q r n) qn r (nI n))) = kl_joinA an qn op q r (n + 1) from (by simp only [kl_joinA]))) hP
                have hP : va_P D vwCl (xW cJ h a1 a2 a3 a4 a5 u d lw uw (kl_joinA an qn op q r (n + 1)) (nI fn) (nI qn) sd) H := hP
                have hD : va_D _ (xW cJ h a1 a2 a3 a4 a5 u d lw uw (kl_joinA an qn op q r (n + 1)) (nI fn) (nI qn) sd) := oo_Dre hD (oo_fc (oo_fc (oo_fc (oo_fc (oo_fc (oo_fc rfl))))))
                exact ihn _ _ _ ⟨hP, hD, hS, hl⟩
          · refine lv_bipush (v := (-3 : Int32)) hx hb dX0_join_41 (by decide) ?_
            have hP := Eq.mp (congrArg (fun z9 => va_P D vwCl (xW cJ h a1 a2 a3 a4 a5 u d lw uw an (nI fn) z9 sd) H) (show nI qn = kvX0_join_qc qn op q r from (by unfold kvX0_join_qc; rw [if_neg c_1, if_neg c_6, if_neg c_14, if_pos c_21, if_neg c_38]))) hP
            have hP := Eq.mp (congrArg (fun z9 => va_P D vwCl (xW cJ h a1 a2 a3 a4 a5 u d lw uw z9 (nI fn) (kvX0_join_qc qn op q r) sd) H) (show an = kvX0_join_an an qn op q r from (by unfold kvX0_join_an; rw [if_neg c_1, if_neg c_6, if_neg c_14, if_pos c_21, if_neg c_38]))) hP
            have hP : va_P D vwCl (xW cJ h a1 a2 a3 a4 a5 u d lw uw (kvX0_join_an an qn op q r) (nI fn) (kvX0_join_qc qn op q r) sd) H := hP
            have hD : va_D _ (xW cJ h a1 a2 a3 a4 a5 u d lw uw (kvX0_join_an an qn op q r) (nI fn) (kvX0_join_qc qn op q r) sd) := oo_Dre hD (oo_fc (oo_fc (oo_fc (oo_fc (oo_fc (oo_fc rfl))))))
            exact mu_reti hx hb hr hlocks hP hD hS (by unfold kvX0_join; rw [if_neg c_1, if_neg c_6, if_neg c_14, if_pos c_21, if_neg c_38]) dX0_join_43
        · refine lv_aload_n hx hb dX0_join_24 rfl (lv_at hl 0 rfl) ?_
          refine lv_iload_n hx hb dX0_join_25 rfl (lv_at hl 3 rfl) ?_
          refine ro_calli (va_runV (As := [.int r]) (rest := []) ⟨hx, hb, hml, hown, hts⟩ (kX0_isQuestion l D cJ h a1 a2 a3 a4 a5 u d lw uw an fn qn sd r) (cwV 1 hts gX0_join_X0_isQuestion rfl rfl rfl ok_X0_isQuestion ⟨Nat.le_of_ble_eq_true rfl, Nat.le_of_ble_eq_true rfl⟩) ⟨oo_blind, va_recv hK hP (ci := 0) (q0 := 0) rfl rfl, oo_ps hP hK [0, 1, 2, 3, 4, 5] rfl [0] rfl⟩ rfl rfl hl.1 rfl (lv_room (Nat.le_of_ble_eq_true rfl)) dX0_join_26 ⟨Nat.le_of_ble_eq_true rfl, Nat.le_of_ble_eq_true rfl⟩) hP hS (fun H locs hP hS => ?_)
          refine lv_if_ne (tgt := 34) hx hb dX0_join_29 (by decide) (fun c_29 => ?_) (fun c_29 => ?_)
          · refine lv_aload_n hx hb dX0_join_34 rfl (lv_at hl 0 rfl) ?_
            refine ro_calli (va_runV (As := []) (rest := []) ⟨hx, hb, hml, hown, hts⟩ (kX0_isFull l D cJ h a1 a2 a3 a4 a5 u d lw uw an fn qn sd) (cwV 0 hts gX0_join_X0_isFull rfl rfl rfl ok_X0_isFull ⟨Nat.le_of_ble_eq_true rfl, Nat.le_of_ble_eq_true rfl⟩) ⟨oo_blind, va_recv hK hP (ci := 0) (q0 := 0) rfl rfl, oo_ps hP hK [0, 1, 2, 3, 4, 5] rfl [0] rfl⟩ rfl rfl hl.1 rfl (lv_room (Nat.le_of_ble_eq_true rfl)) dX0_join_35 ⟨Nat.le_of_ble_eq_true rfl, Nat.le_of_ble_eq_true rfl⟩) hP hS (fun H locs hP hS => ?_)
            refine lv_if_eq (tgt := 44) hx hb dX0_join_38 (by decide) (fun c_38 => ?_) (fun c_38 => ?_)
            · refine lv_iconst (v := nI 0) hx hb dX0_join_44 (by decide) ?_
              refine lv_istore (lv' := [(4, .int (nI 0)), (0, .ref h), (1, .int op), (2, .int q), (3, .int r)]) hx hb dX0_join_45 hl (by decide) rfl (fun ls hl => ?_)
              have hl : lv_has ls 5 [(0, .ref h), (1, .int op), (2, .int q), (3, .int r), (4, .int (nI 0))] := lv_sub hl [1, 2, 3, 4, 0] rfl
              have hP := Eq.mp (congrArg (fun z9 => va_P D vwCl (xW cJ h a1 a2 a3 a4 a5 u d lw uw z9 (nI fn) (nI qn) sd) H) (show an = kl_joinA an qn op q r 0 from (by first | (simp only [kl_joinA]; done) | (simp only [kl_joinA]; rw [if_neg c_1, if_neg c_6, if_neg c_14, if_neg c_21, if_neg c_29, if_pos c_38])))) hP
              have hP : va_P D vwCl (xW cJ h a1 a2 a3 a4 a5 u d lw uw (kl_joinA an qn op q r 0) (nI fn) (nI qn) sd) H := hP
              have hD : va_D _ (xW cJ h a1 a2 a3 a4 a5 u d lw uw (kl_joinA an qn op q r 0) (nI fn) (nI qn) sd) := oo_Dre hD (oo_fc (oo_fc (oo_fc (oo_fc (oo_fc (oo_fc rfl))))))
              refine oo_loop (N := 64) (fun n H locs ls => va_P D vwCl (xW cJ h a1 a2 a3 a4 a5 u d lw uw (kl_joinA an qn op q r n) (nI fn) (nI qn) sd) H ∧ va_D (va_A (xW cJ h a1 a2 a3 a4 a5 u d lw uw an (nI fn) (nI qn) sd) s.heap.size) (xW cJ h a1 a2 a3 a4 a5 u d lw uw (kl_joinA an qn op q r n) (nI fn) (nI qn) sd) ∧ va_S (va_A (xW cJ h a1 a2 a3 a4 a5 u d lw uw an (nI fn) (nI qn) sd) s.heap.size) s.heap H locs ∧ lv_has ls 5 [(0, .ref h), (1, .int op), (2, .int q), (3, .int r), (4, .int (nI n))]) ?_ ?_ 0 (Nat.zero_le _) ⟨hP, hD, hS, hl⟩
              · intro H locs ls hI
                obtain ⟨hP, hD, hS, hl⟩ := hI
                refine lv_iload hx hb dX0_join_47 (lv_at hl 4 rfl) ?_
                refine lv_bipush (v := nI 64) hx hb dX0_join_49 (by decide) ?_
                refine lv_icmp_ge (tgt := 84) hx hb dX0_join_51 (by decide) (fun c_51 => ?_) (fun c_51 => ?_)
                · refine lv_aload_n hx hb dX0_join_84 rfl (lv_at hl 0 rfl) ?_
                  refine mu_calli (va_runV (As := []) (rest := []) ⟨hx, hb, hml, hown, hts⟩ (kX0_keepNext l D cJ h a1 a2 a3 a4 a5 u d lw uw (kl_joinA an qn op q r 64) fn qn sd _) (cwV 0 hts gX0_join_X0_keepNext rfl rfl rfl ok_X0_keepNext ⟨Nat.le_of_ble_eq_true rfl, Nat.le_of_ble_eq_true rfl⟩) ⟨oo_blindM, va_recv hK hP (ci := 0) (q0 := 0) rfl rfl, oo_psM hP hD hK [0, 1, 2, 3, 4, 5] rfl rfl [0] rfl⟩ rfl rfl hl.1 rfl (lv_room (Nat.le_of_ble_eq_true rfl)) dX0_join_85 ⟨Nat.le_of_ble_eq_true rfl, Nat.le_of_ble_eq_true rfl⟩) hP hD hS hA [0, 1, 2, 3, 4, 5] rfl (oo_fc (oo_fc (oo_fc (oo_fc (oo_fc (oo_fc rfl)))))) (fun H locs hP hD hS => ?_)
                  have hP : va_P D vwCl (xW cJ h a1 a2 a3 a4 a5 u d lw uw (kl_joinA an qn op q r 64) (nI fn) (nI (qn + 1)) sd) H := hP
                  have hD : va_D _ (xW cJ h a1 a2 a3 a4 a5 u d lw uw (kl_joinA an qn op q r 64) (nI fn) (nI (qn + 1)) sd) := hD
                  have hP := Eq.mp (congrArg (fun z9 => va_P D vwCl (xW cJ h a1 a2 a3 a4 a5 u d lw uw (kl_joinA an qn op q r 64) (nI fn) z9 sd) H) (show nI (qn + 1) = kvX0_join_qc qn op q r from (by unfold kvX0_join_qc; rw [if_neg c_1, if_neg c_6, if_neg c_14, if_neg c_21, if_neg c_29, if_pos c_38]))) hP
                  have hP := Eq.mp (congrArg (fun z9 => va_P D vwCl (xW cJ h a1 a2 a3 a4 a5 u d lw uw z9 (nI fn) (kvX0_join_qc qn op q r) sd) H) (show (kl_joinA an qn op q r 64) = kvX0_join_an an qn op q r from (by unfold kvX0_join_an; rw [if_neg c_1, if_neg c_6, if_neg c_14, if_neg c_21, if_neg c_29, if_pos c_38]))) hP
                  have hP : va_P D vwCl (xW cJ h a1 a2 a3 a4 a5 u d lw uw (kvX0_join_an an qn op q r) (nI fn) (kvX0_join_qc qn op q r) sd) H := hP
                  have hD : va_D _ (xW cJ h a1 a2 a3 a4 a5 u d lw uw (kvX0_join_an an qn op q r) (nI fn) (kvX0_join_qc qn op q r) sd) := oo_Dre hD (oo_fc (oo_fc (oo_fc (oo_fc (oo_fc (oo_fc rfl))))))
                  exact mu_reti hx hb hr hlocks hP hD hS (by unfold kvX0_join; rw [if_neg c_1, if_neg c_6, if_neg c_14, if_neg c_21, if_neg c_29, if_pos c_38]) dX0_join_88
                · exact absurd (nI_le (Nat.le_refl _) (by omega)) c_51
              · intro n hltn ihn H locs ls hI
                obtain ⟨hP, hD, hS, hl⟩ := hI
                refine lv_iload hx hb dX0_join_47 (lv_at hl 4 rfl) ?_
                refine lv_bipush (v := nI 64) hx hb dX0_join_49 (by decide) ?_
                refine lv_icmp_ge (tgt := 84) hx hb dX0_join_51 (by decide) (fun c_51 => ?_) (fun c_51 => ?_)
                · exact absurd c_51 (nI_ge hltn (by omega))
                · refine lv_aload_n hx hb dX0_join_54 rfl (lv_at hl 0 rfl) ?_
                  refine lv_iload hx hb dX0_join_55 (lv_at hl 4 rfl) ?_
                  refine lv_iload_n hx hb dX0_join_57 rfl (lv_at hl 1 rfl) ?_
                  refine lv_aload_n hx hb dX0_join_58 rfl (lv_at hl 0 rfl) ?_
                  refine lv_iload_n hx hb dX0_join_59 rfl (lv_at hl 2 rfl) ?_
                  refine lv_iload hx hb dX0_join_60 (lv_at hl 4 rfl) ?_
                  refine ro_calll (va_runV (As := [.int q, .int (nI n)]) (rest := [.int op, .int (nI n), .ref h]) ⟨hx, hb, hml, hown, hts⟩ (kX0_blockOf l D cJ h a1 a2 a3 a4 a5 u d lw uw (kl_joinA an qn op q r n) fn qn sd q (nI n)) (cwV 2 hts gX0_join_X0_blockOf rfl rfl rfl ok_X0_blockOf ⟨Nat.le_of_ble_eq_true rfl, Nat.le_of_ble_eq_true rfl⟩) ⟨oo_blind, va_recv hK hP (ci := 0) (q0 := 0) rfl rfl, oo_ps hP hK [0, 1, 2, 3, 4, 5] rfl [0] rfl⟩ rfl rfl hl.1 rfl (lv_room (Nat.le_of_ble_eq_true rfl)) dX0_join_62 ⟨Nat.le_of_ble_eq_true rfl, Nat.le_of_ble_eq_true rfl⟩) hP hS (fun H locs hP hS => ?_)
                  refine lv_aload_n hx hb dX0_join_65 rfl (lv_at hl 0 rfl) ?_
                  refine lv_iload_n hx hb dX0_join_66 rfl (lv_at hl 3 rfl) ?_
                  refine lv_iload hx hb dX0_join_67 (lv_at hl 4 rfl) ?_
                  refine ro_calll (va_runV (As := [.int r, .int (nI n)]) (rest := [.long (kvX0_blockOf (kl_joinA an qn op q r n) qn q (nI n)), .int op, .int (nI n), .ref h]) ⟨hx, hb, hml, hown, hts⟩ (kX0_blockOf l D cJ h a1 a2 a3 a4 a5 u d lw uw (kl_joinA an qn op q r n) fn qn sd r (nI n)) (cwV 2 hts gX0_join_X0_blockOf rfl rfl rfl ok_X0_blockOf ⟨Nat.le_of_ble_eq_true rfl, Nat.le_of_ble_eq_true rfl⟩) ⟨oo_blind, va_recv hK hP (ci := 0) (q0 := 0) rfl rfl, oo_ps hP hK [0, 1, 2, 3, 4, 5] rfl [0] rfl⟩ rfl rfl hl.1 rfl (lv_room (Nat.le_of_ble_eq_true rfl)) dX0_join_69 ⟨Nat.le_of_ble_eq_true rfl, Nat.le_of_ble_eq_true rfl⟩) hP hS (fun H locs hP hS => ?_)
                  refine ro_calll (va_runS (As := [.int op, .long (kvX0_blockOf (kl_joinA an qn op q r n) qn q (nI n)), .long (kvX0_blockOf (kl_joinA an qn op q r n) qn r (nI n))]) (rest := [.int (nI n), .ref h]) ⟨hx, hb, hml, hown, hts⟩ (kX0_joined l D op (kvX0_blockOf (kl_joinA an qn op q r n) qn q (nI n)) (kvX0_blockOf (kl_joinA an qn op q r n) qn r (nI n))) (va_cwS 3 hts gX0_join_X0_joined rfl rfl rfl ok_X0_joined ⟨Nat.le_of_ble_eq_true rfl, Nat.le_of_ble_eq_true rfl⟩) ⟨oo_blind, oo_ps hP hK [] rfl [] rfl⟩ rfl rfl hl.1 rfl (lv_room (Nat.le_of_ble_eq_true rfl)) dX0_join_72 ⟨Nat.le_of_ble_eq_true rfl, Nat.le_of_ble_eq_true rfl⟩) hP hS (fun H locs hP hS => ?_)
                  refine mu_callv (va_runV (As := [.int (nI n), .long (kvX0_joined op (kvX0_blockOf (kl_joinA an qn op q r n) qn q (nI n)) (kvX0_blockOf (kl_joinA an qn op q r n) qn r (nI n)))]) (rest := []) ⟨hx, hb, hml, hown, hts⟩ (kX0_putNextBlock l D cJ h a1 a2 a3 a4 a5 u d lw uw (kl_joinA an qn op q r n) fn qn sd (nI n) (kvX0_joined op (kvX0_blockOf (kl_joinA an qn op q r n) qn q (nI n)) (kvX0_blockOf (kl_joinA an qn op q r n) qn r (nI n))) _) (cwV 2 hts gX0_join_X0_putNextBlock rfl rfl rfl ok_X0_putNextBlock ⟨Nat.le_of_ble_eq_true rfl, Nat.le_of_ble_eq_true rfl⟩) ⟨oo_blindM, va_recv hK hP (ci := 0) (q0 := 0) rfl rfl, oo_psM hP hD hK [0, 1, 2, 3, 4, 5] rfl rfl [0] rfl⟩ rfl rfl hl.1 rfl (lv_room (Nat.le_of_ble_eq_true rfl)) dX0_join_75 ⟨Nat.le_of_ble_eq_true rfl, Nat.le_of_ble_eq_true rfl⟩) hP hD hS hA [0, 1, 2, 3, 4, 5] rfl (oo_fc (oo_fc (oo_fc (oo_fc (oo_fc (oo_fc rfl)))))) (fun H locs hP hD hS => ?_)
                  have hP : va_P D vwCl (xW cJ h a1 a2 a3 a4 a5 u d lw uw (kvX0_put_c0 2560 (kl_joinA an qn op q r n) (((nI qn) * (nI 64)) + (nI n)) (kvX0_joined op (kvX0_blockOf (kl_joinA an qn op q r n) qn q (nI n)) (kvX0_blockOf (kl_joinA an qn op q r n) qn r (nI n)))) (nI fn) (nI qn) sd) H := hP
                  have hD : va_D _ (xW cJ h a1 a2 a3 a4 a5 u d lw uw (kvX0_put_c0 2560 (kl_joinA an qn op q r n) (((nI qn) * (nI 64)) + (nI n)) (kvX0_joined op (kvX0_blockOf (kl_joinA an qn op q r n) qn q (nI n)) (kvX0_blockOf (kl_joinA an qn op q r n) qn r (nI n)))) (nI fn) (nI qn) sd) := hD
                  refine lv_iinc (v := nI (n + 1)) (lv' := [(4, .int (nI (n + 1))), (0, .ref h), (1, .int op), (2, .int q), (3, .int r)]) hx hb dX0_join_78 hl (k := 4) rfl (oo_inc n 1) (by decide) rfl (fun ls hl => ?_)
                  refine lv_goto (tgt := 47) hx hb dX0_join_81 (by decide) ?_
                  have hl : lv_has ls 5 [(0, .ref h), (1, .int op), (2, .int q), (3, .int r), (4, .int (nI (n + 1)))] := lv_sub hl [1, 2, 3, 4, 0] rfl
                  have hP := Eq.mp (congrArg (fun z9 => va_P D vwCl (xW cJ h a1 a2 a3 a4 a5 u d lw uw z9 (nI fn) (nI qn) sd) H) (show kvX0_put_c0 2560 (kl_joinA an qn op q r n) (((nI qn) * (nI 64)) + (nI n)) (kvX0_joined op (kvX0_blockOf (kl_joinA an qn op q r n) qn q (nI n)) (kvX0_blockOf (kl_joinA an qn op q r n) qn r (nI n))) = kl_joinA an qn op q r (n + 1) from (by simp only [kl_joinA]))) hP
                  have hP : va_P D vwCl (xW cJ h a1 a2 a3 a4 a5 u d lw uw (kl_joinA an qn op q r (n + 1)) (nI fn) (nI qn) sd) H := hP
                  have hD : va_D _ (xW cJ h a1 a2 a3 a4 a5 u d lw uw (kl_joinA an qn op q r (n + 1)) (nI fn) (nI qn) sd) := oo_Dre hD (oo_fc (oo_fc (oo_fc (oo_fc (oo_fc (oo_fc rfl))))))
                  exact ihn _ _ _ ⟨hP, hD, hS, hl⟩
            · refine lv_bipush (v := (-3 : Int32)) hx hb dX0_join_41 (by decide) ?_
              have hP := Eq.mp (congrArg (fun z9 => va_P D vwCl (xW cJ h a1 a2 a3 a4 a5 u d lw uw an (nI fn) z9 sd) H) (show nI qn = kvX0_join_qc qn op q r from (by unfold kvX0_join_qc; rw [if_neg c_1, if_neg c_6, if_neg c_14, if_neg c_21, if_neg c_29, if_neg c_38]))) hP
              have hP := Eq.mp (congrArg (fun z9 => va_P D vwCl (xW cJ h a1 a2 a3 a4 a5 u d lw uw z9 (nI fn) (kvX0_join_qc qn op q r) sd) H) (show an = kvX0_join_an an qn op q r from (by unfold kvX0_join_an; rw [if_neg c_1, if_neg c_6, if_neg c_14, if_neg c_21, if_neg c_29, if_neg c_38]))) hP
              have hP : va_P D vwCl (xW cJ h a1 a2 a3 a4 a5 u d lw uw (kvX0_join_an an qn op q r) (nI fn) (kvX0_join_qc qn op q r) sd) H := hP
              have hD : va_D _ (xW cJ h a1 a2 a3 a4 a5 u d lw uw (kvX0_join_an an qn op q r) (nI fn) (kvX0_join_qc qn op q r) sd) := oo_Dre hD (oo_fc (oo_fc (oo_fc (oo_fc (oo_fc (oo_fc rfl))))))
              exact mu_reti hx hb hr hlocks hP hD hS (by unfold kvX0_join; rw [if_neg c_1, if_neg c_6, if_neg c_14, if_neg c_21, if_neg c_29, if_neg c_38]) dX0_join_43
          · refine lv_iconst (v := (-1 : Int32)) hx hb dX0_join_32 (by decide) ?_
            have hP := Eq.mp (congrArg (fun z9 => va_P D vwCl (xW cJ h a1 a2 a3 a4 a5 u d lw uw an (nI fn) z9 sd) H) (show nI qn = kvX0_join_qc qn op q r from (by unfold kvX0_join_qc; rw [if_neg c_1, if_neg c_6, if_neg c_14, if_neg c_21, if_pos c_29]))) hP
            have hP := Eq.mp (congrArg (fun z9 => va_P D vwCl (xW cJ h a1 a2 a3 a4 a5 u d lw uw z9 (nI fn) (kvX0_join_qc qn op q r) sd) H) (show an = kvX0_join_an an qn op q r from (by unfold kvX0_join_an; rw [if_neg c_1, if_neg c_6, if_neg c_14, if_neg c_21, if_pos c_29]))) hP
            have hP : va_P D vwCl (xW cJ h a1 a2 a3 a4 a5 u d lw uw (kvX0_join_an an qn op q r) (nI fn) (kvX0_join_qc qn op q r) sd) H := hP
            have hD : va_D _ (xW cJ h a1 a2 a3 a4 a5 u d lw uw (kvX0_join_an an qn op q r) (nI fn) (kvX0_join_qc qn op q r) sd) := oo_Dre hD (oo_fc (oo_fc (oo_fc (oo_fc (oo_fc (oo_fc rfl))))))
            exact mu_reti hx hb hr hlocks hP hD hS (by unfold kvX0_join; rw [if_neg c_1, if_neg c_6, if_neg c_14, if_neg c_21, if_pos c_29]) dX0_join_33
      · refine lv_iconst (v := (-1 : Int32)) hx hb dX0_join_17 (by decide) ?_
        have hP := Eq.mp (congrArg (fun z9 => va_P D vwCl (xW cJ h a1 a2 a3 a4 a5 u d lw uw an (nI fn) z9 sd) H) (show nI qn = kvX0_join_qc qn op q r from (by unfold kvX0_join_qc; rw [if_neg c_1, if_neg c_6, if_pos c_14]))) hP
        have hP := Eq.mp (congrArg (fun z9 => va_P D vwCl (xW cJ h a1 a2 a3 a4 a5 u d lw uw z9 (nI fn) (kvX0_join_qc qn op q r) sd) H) (show an = kvX0_join_an an qn op q r from (by unfold kvX0_join_an; rw [if_neg c_1, if_neg c_6, if_pos c_14]))) hP
        have hP : va_P D vwCl (xW cJ h a1 a2 a3 a4 a5 u d lw uw (kvX0_join_an an qn op q r) (nI fn) (kvX0_join_qc qn op q r) sd) H := hP
        have hD : va_D _ (xW cJ h a1 a2 a3 a4 a5 u d lw uw (kvX0_join_an an qn op q r) (nI fn) (kvX0_join_qc qn op q r) sd) := oo_Dre hD (oo_fc (oo_fc (oo_fc (oo_fc (oo_fc (oo_fc rfl))))))
        exact mu_reti hx hb hr hlocks hP hD hS (by unfold kvX0_join; rw [if_neg c_1, if_neg c_6, if_pos c_14]) dX0_join_18
