def kl_whI (up rest : Int64) (sz : Nat) (w : Nat → Int64) : Nat → Nat → Int64
  | 0 => w
  | n + 1 => kvX0_put_c0 64 (kvX0_put_c0 64 (kl_whI up rest sz w n) (nI n) (kvX0_at 64 (kl_whI up rest sz w n) (nI n) * rest)) (nI n + nI sz) (kvX0_at 64 (kl_whI up rest sz w n) (nI n) * up)
def kl_whO (u d : Nat → Int64) (fs : Int32) (w : Nat → Int64) : Nat → Nat → Int64
  | 0 => kvX0_put_c0 64 w (0 : Int32) (1 : Int64)
  | i + 1 => kl_whI (kvX0_at 12 u (fs + nI i)) (kvX0_at 12 d (fs + nI i) - kvX0_at 12 u (fs + nI i)) (2 ^ i) (kl_whO u d fs w i) (2 ^ i)
theorem ok_X0_weighHalf : yX0_weighHalf.cls = RX0 ∧ yX0_weighHalf.cls ≠ "java/lang/invoke/MethodHandle" ∧ yX0_weighHalf.cls ≠ "java/lang/invoke/VarHandle" ∧ (parseMethodDescriptor yX0_weighHalf.desc).map (fun d => d.parameters.length) = some 2 := by decide +kernel
set_option maxHeartbeats 4000000 in
set_option maxRecDepth 100000 in
theorem kX0_weighHalf (l : Launch) (D : va_G) (cJ : ClassId) (h a1 a2 a3 a4 a5 aw : Nat) (u d w : Nat → Int64) (fn qn : Nat) (sd : Int64) (fs : Int32) : MuV l yX0_weighHalf wsX0_weighHalf ({ frames := 1, cells := 0, slots := 0, locals := 23 } : Room) [.ref h, .ref aw, .int fs] D ([(h, .inr (0, [.ref a1, .ref a2, .ref a3, .ref a4, .ref a5, .int (nI fn), .int (nI qn), .long sd])), (a1, .inl (cJ, 12, .inr (.inl u))), (a2, .inl (cJ, 12, .inr (.inl d))), (aw, .inl (cJ, 64, .inr (.inl w)))]) [(cJ, .long)] ([(h, .inr (0, [.ref a1, .ref a2, .ref a3, .ref a4, .ref a5, .int (nI fn), .int (nI qn), .long sd])), (a1, .inl (cJ, 12, .inr (.inl u))), (a2, .inl (cJ, 12, .inr (.inl d))), (aw, .inl (cJ, 64, .inr (.inl (kl_whO u d fs w 6))))]) := by
  intro sz
  refine oo_head (C := RX0) (cc := cX0_weighHalf) (maxL := 12) (ret := none) (by decide) rfl rfl (Nat.le_of_ble_eq_true rfl) ?_
  intro p e s m below meth c hx hb hr hlocks hml hown hnm hts hpre ls hl
  have hl : lv_has ls 12 [(0, .ref h), (1, .ref aw), (2, .int fs)] := hl
  obtain ⟨rfl, hP, hK, hD0⟩ := hpre
  have hD := hD0.self (sz := s.heap.size)
  have hA := oo_A ([(h, .inr (0, [.ref a1, .ref a2, .ref a3, .ref a4, .ref a5, .int (nI fn), .int (nI qn), .long sd])), (a1, .inl (cJ, 12, .inr (.inl u))), (a2, .inl (cJ, 12, .inr (.inl d))), (aw, .inl (cJ, 64, .inr (.inl w)))]) s
  have hS : va_S (va_A ([(h, .inr (0, [.ref a1, .ref a2, .ref a3, .ref a4, .ref a5, .int (nI fn), .int (nI qn), .long sd])), (a1, .inl (cJ, 12, .inr (.inl u))), (a2, .inl (cJ, 12, .inr (.inl d))), (aw, .inl (cJ, 64, .inr (.inl w)))]) s.heap.size) s.heap s.heap [] := va_S.rf
  have hin : ∀ w ∈ wsX00, w ∈ wsX0_weighHalf := fun w h => List.mem_cons_of_mem _ (List.mem_append_right _ h)
  refine lv_aload_n hx hb dX0_weighHalf_0 rfl (lv_at hl 1 rfl) ?_
  refine lv_iconst (v := (0 : Int32)) hx hb dX0_weighHalf_1 (by decide) ?_
  refine lv_lconst (v := (1 : Int64)) hx hb dX0_weighHalf_2 (by decide) ?_
  refine mu_callv (va_runS (As := [.ref aw, .int (0 : Int32), .long (1 : Int64)]) (rest := []) ⟨hx, hb, hml, hown, hts⟩ (kX0_put l D cJ aw 64 w (0 : Int32) (1 : Int64) (by omega) _) (va_cwS 3 hts gX0_weighHalf_X0_put rfl rfl rfl ok_X0_put ⟨Nat.le_of_ble_eq_true rfl, Nat.le_of_ble_eq_true rfl⟩) ⟨oo_blindM, oo_psM hP hD hK [3] rfl rfl [0] rfl⟩ rfl rfl hl.1 rfl (lv_room (Nat.le_of_ble_eq_true rfl)) dX0_weighHalf_3 ⟨Nat.le_of_ble_eq_true rfl, Nat.le_of_ble_eq_true rfl⟩) hP hD hS hA [3] rfl (oo_fc rfl) (fun H locs hP hD hS => ?_)
  have hP : va_P D vwCl ([(h, .inr (0, [.ref a1, .ref a2, .ref a3, .ref a4, .ref a5, .int (nI fn), .int (nI qn), .long sd])), (a1, .inl (cJ, 12, .inr (.inl u))), (a2, .inl (cJ, 12, .inr (.inl d))), (aw, .inl (cJ, 64, .inr (.inl (kvX0_put_c0 64 w (0 : Int32) (1 : Int64)))))]) H := hP
  have hD : va_D _ ([(h, .inr (0, [.ref a1, .ref a2, .ref a3, .ref a4, .ref a5, .int (nI fn), .int (nI qn), .long sd])), (a1, .inl (cJ, 12, .inr (.inl u))), (a2, .inl (cJ, 12, .inr (.inl d))), (aw, .inl (cJ, 64, .inr (.inl (kvX0_put_c0 64 w (0 : Int32) (1 : Int64)))))]) := hD
  refine lv_iconst (v := nI 0) hx hb dX0_weighHalf_6 (by decide) ?_
  refine lv_istore_n (lv' := [(3, .int (nI 0)), (0, .ref h), (1, .ref aw), (2, .int fs)]) hx hb dX0_weighHalf_7 rfl hl (by decide) rfl (fun ls hl => ?_)
  have hl : lv_has ls 12 [(0, .ref h), (1, .ref aw), (2, .int fs), (3, .int (nI 0))] := lv_sub hl [1, 2, 3, 0] rfl
  have hP := Eq.mp (congrArg (fun z9 => va_P D vwCl ([(h, .inr (0, [.ref a1, .ref a2, .ref a3, .ref a4, .ref a5, .int (nI fn), .int (nI qn), .long sd])), (a1, .inl (cJ, 12, .inr (.inl u))), (a2, .inl (cJ, 12, .inr (.inl d))), (aw, .inl (cJ, 64, .inr (.inl z9)))]) H) (show kvX0_put_c0 64 w (0 : Int32) (1 : Int64) = kl_whO u d fs w 0 from (by simp only [kl_whO]))) hP
  have hP : va_P D vwCl ([(h, .inr (0, [.ref a1, .ref a2, .ref a3, .ref a4, .ref a5, .int (nI fn), .int (nI qn), .long sd])), (a1, .inl (cJ, 12, .inr (.inl u))), (a2, .inl (cJ, 12, .inr (.inl d))), (aw, .inl (cJ, 64, .inr (.inl (kl_whO u d fs w 0))))]) H := hP
  have hD : va_D _ ([(h, .inr (0, [.ref a1, .ref a2, .ref a3, .ref a4, .ref a5, .int (nI fn), .int (nI qn), .long sd])), (a1, .inl (cJ, 12, .inr (.inl u))), (a2, .inl (cJ, 12, .inr (.inl d))), (aw, .inl (cJ, 64, .inr (.inl (kl_whO u d fs w 0))))]) := oo_Dre hD (oo_fc (oo_fc (oo_fc (oo_fc rfl))))
  refine oo_loop (N := 6) (fun i H locs ls => va_P D vwCl ([(h, .inr (0, [.ref a1, .ref a2, .ref a3, .ref a4, .ref a5, .int (nI fn), .int (nI qn), .long sd])), (a1, .inl (cJ, 12, .inr (.inl u))), (a2, .inl (cJ, 12, .inr (.inl d))), (aw, .inl (cJ, 64, .inr (.inl (kl_whO u d fs w i))))]) H ∧ va_D (va_A ([(h, .inr (0, [.ref a1, .ref a2, .ref a3, .ref a4, .ref a5, .int (nI fn), .int (nI qn), .long sd])), (a1, .inl (cJ, 12, .inr (.inl u))), (a2, .inl (cJ, 12, .inr (.inl d))), (aw, .inl (cJ, 64, .inr (.inl w)))]) s.heap.size) ([(h, .inr (0, [.ref a1, .ref a2, .ref a3, .ref a4, .ref a5, .int (nI fn), .int (nI qn), .long sd])), (a1, .inl (cJ, 12, .inr (.inl u))), (a2, .inl (cJ, 12, .inr (.inl d))), (aw, .inl (cJ, 64, .inr (.inl (kl_whO u d fs w i))))]) ∧ va_S (va_A ([(h, .inr (0, [.ref a1, .ref a2, .ref a3, .ref a4, .ref a5, .int (nI fn), .int (nI qn), .long sd])), (a1, .inl (cJ, 12, .inr (.inl u))), (a2, .inl (cJ, 12, .inr (.inl d))), (aw, .inl (cJ, 64, .inr (.inl w)))]) s.heap.size) s.heap H locs ∧ lv_has ls 12 [(0, .ref h), (1, .ref aw), (2, .int fs), (3, .int (nI i))]) ?_ ?_ 0 (Nat.zero_le _) ⟨hP, hD, hS, hl⟩
  · intro H locs ls hI
    obtain ⟨hP, hD, hS, hl⟩ := hI
    refine lv_iload_n hx hb dX0_weighHalf_8 rfl (lv_at hl 3 rfl) ?_
    refine lv_bipush (v := nI 6) hx hb dX0_weighHalf_9 (by decide) ?_
    refine lv_icmp_ge (tgt := 101) hx hb dX0_weighHalf_11 (by decide) (fun c_11 => ?_) (fun c_11 => ?_)
    · exact mu_retv hx hb hr hlocks hP hD hS dX0_weighHalf_101
    · exact absurd (nI_le (Nat.le_refl _) (by omega)) c_11
  · intro i hlti ihi H locs ls hI
    obtain ⟨hP, hD, hS, hl⟩ := hI
    have h2i : 2 ^ i ≤ 2 ^ 5 := Nat.pow_le_pow_right (by omega) (by omega)
    refine lv_iload_n hx hb dX0_weighHalf_8 rfl (lv_at hl 3 rfl) ?_
    refine lv_bipush (v := nI 6) hx hb dX0_weighHalf_9 (by decide) ?_
    refine lv_icmp_ge (tgt := 101) hx hb dX0_weighHalf_11 (by decide) (fun c_11 => ?_) (fun c_11 => ?_)
    · exact absurd c_11 (nI_ge hlti (by omega))
    · refine lv_aload_n hx hb dX0_weighHalf_14 rfl (lv_at hl 0 rfl) ?_
      refine va_get (D := D) (ci := 0) (v := .ref a1) (C := RX0) (T := TX0) (N := 8) hx hb hts hin hown hK hP 0 rfl rfl 0 (by decide) (hts (.fieldLink RX0 9 "OddsSampling" "ups" "[J") (by decide +kernel)) (fun _ h9 => h9) rfl dX0_weighHalf_15 ?_
      refine lv_iload_n hx hb dX0_weighHalf_18 rfl (lv_at hl 2 rfl) ?_
      refine lv_iload_n hx hb dX0_weighHalf_19 rfl (lv_at hl 3 rfl) ?_
      refine lv_iadd hx hb dX0_weighHalf_20 ?_
      refine ro_calll (va_runS (As := [.ref a1, .int (fs + (nI i))]) (rest := []) ⟨hx, hb, hml, hown, hts⟩ (kX0_at l D cJ a1 12 u (fs + (nI i)) (by omega)) (va_cwS 2 hts gX0_weighHalf_X0_at rfl rfl rfl ok_X0_at ⟨Nat.le_of_ble_eq_true rfl, Nat.le_of_ble_eq_true rfl⟩) ⟨oo_blind, oo_ps hP hK [1] rfl [0] rfl⟩ rfl rfl hl.1 rfl (lv_room (Nat.le_of_ble_eq_true rfl)) dX0_weighHalf_21 ⟨Nat.le_of_ble_eq_true rfl, Nat.le_of_ble_eq_true rfl⟩) hP hS (fun H locs hP hS => ?_)
      refine lv_lstore (lv' := [(4, .long (kvX0_at 12 u (fs + (nI i)))), (0, .ref h), (1, .ref aw), (2, .int fs), (3, .int (nI i))]) hx hb dX0_weighHalf_24 hl (by decide) rfl (fun ls hl => ?_)
      refine lv_aload_n hx hb dX0_weighHalf_26 rfl (lv_at hl 1 rfl) ?_
      refine va_get (D := D) (ci := 0) (v := .ref a2) (C := RX0) (T := TX0) (N := 8) hx hb hts hin hown hK hP 0 rfl rfl 1 (by decide) (hts (.fieldLink RX0 13 "OddsSampling" "downs" "[J") (by decide +kernel)) (fun _ h9 => h9) rfl dX0_weighHalf_27 ?_
      refine lv_iload_n hx hb dX0_weighHalf_30 rfl (lv_at hl 3 rfl) ?_
      refine lv_iload_n hx hb dX0_weighHalf_31 rfl (lv_at hl 4 rfl) ?_
      refine lv_iadd hx hb dX0_weighHalf_32 ?_
      refine ro_calll (va_runS (As := [.ref a2, .int (fs + (nI i))]) (rest := []) ⟨hx, hb, hml, hown, hts⟩ (kX0_at l D cJ a2 12 d (fs + (nI i)) (by omega)) (va_cwS 2 hts gX0_weighHalf_X0_at rfl rfl rfl ok_X0_at ⟨Nat.le_of_ble_eq_true rfl, Nat.le_of_ble_eq_true rfl⟩) ⟨oo_blind, oo_ps hP hK [2] rfl [0] rfl⟩ rfl rfl hl.1 rfl (lv_room (Nat.le_of_ble_eq_true rfl)) dX0_weighHalf_33 ⟨Nat.le_of_ble_eq_true rfl, Nat.le_of_ble_eq_true rfl⟩) hP hS (fun H locs hP hS => ?_)
      refine lv_lload hx hb dX0_weighHalf_36 (lv_at hl 0 rfl) ?_
      refine lv_lsub hx hb dX0_weighHalf_38 ?_
      refine lv_lstore (lv' := [(6, .long ((kvX0_at 12 d (fs + (nI i))) - (kvX0_at 12 u (fs + (nI i))))), (4, .long (kvX0_at 12 u (fs + (nI i)))), (0, .ref h), (1, .ref aw), (2, .int fs), (3, .int (nI i))]) hx hb dX0_weighHalf_39 hl (by decide) rfl (fun ls hl => ?_)
      refine lv_iconst (v := (1 : Int32)) hx hb dX0_weighHalf_41 (by decide) ?_
      refine lv_iload_n hx hb dX0_weighHalf_42 rfl (lv_at hl 5 rfl) ?_
      refine lv_ishl hx hb dX0_weighHalf_43 ?_
      refine oo_topI (y := nI (2 ^ i)) (oo_shl1 i (by omega)) ?_
      refine lv_istore (lv' := [(8, .int (nI (2 ^ i))), (6, .long ((kvX0_at 12 d (fs + (nI i))) - (kvX0_at 12 u (fs + (nI i))))), (4, .long (kvX0_at 12 u (fs + (nI i)))), (0, .ref h), (1, .ref aw), (2, .int fs), (3, .int (nI i))]) hx hb dX0_weighHalf_44 hl (by decide) rfl (fun ls hl => ?_)
      refine lv_iconst (v := nI 0) hx hb dX0_weighHalf_46 (by decide) ?_
      refine lv_istore (lv' := [(9, .int (nI 0)), (8, .int (nI (2 ^ i))), (6, .long ((kvX0_at 12 d (fs + (nI i))) - (kvX0_at 12 u (fs + (nI i))))), (4, .long (kvX0_at 12 u (fs + (nI i)))), (0, .ref h), (1, .ref aw), (2, .int fs), (3, .int (nI i))]) hx hb dX0_weighHalf_47 hl (by decide) rfl (fun ls hl => ?_)
      have hl : lv_has ls 12 [(0, .ref h), (1, .ref aw), (2, .int fs), (3, .int (nI i)), (4, .long (kvX0_at 12 u (fs + (nI i)))), (6, .long ((kvX0_at 12 d (fs + (nI i))) - (kvX0_at 12 u (fs + (nI i))))), (8, .int (nI (2 ^ i))), (9, .int (nI 0))] := lv_sub hl [4, 5, 6, 7, 3, 2, 1, 0] rfl
      have hP := Eq.mp (congrArg (fun z9 => va_P D vwCl ([(h, .inr (0, [.ref a1, .ref a2, .ref a3, .ref a4, .ref a5, .int (nI fn), .int (nI qn), .long sd])), (a1, .inl (cJ, 12, .inr (.inl u))), (a2, .inl (cJ, 12, .inr (.inl d))), (aw, .inl (cJ, 64, .inr (.inl z9)))]) H) (show kl_whO u d fs w i = kl_whI (kvX0_at 12 u (fs + (nI i))) ((kvX0_at 12 d (fs + (nI i))) - (kvX0_at 12 u (fs + (nI i)))) (2 ^ i) (kl_whO u d fs w i) 0 from (by simp only [kl_whI]))) hP
      have hP : va_P D vwCl ([(h, .inr (0, [.ref a1, .ref a2, .ref a3, .ref a4, .ref a5, .int (nI fn), .int (nI qn), .long sd])), (a1, .inl (cJ, 12, .inr (.inl u))), (a2, .inl (cJ, 12, .inr (.inl d))), (aw, .inl (cJ, 64, .inr (.inl (kl_whI (kvX0_at 12 u (fs + (nI i))) ((kvX0_at 12 d (fs + (nI i))) - (kvX0_at 12 u (fs + (nI i)))) (2 ^ i) (kl_whO u d fs w i) 0))))]) H := hP
      have hD : va_D _ ([(h, .inr (0, [.ref a1, .ref a2, .ref a3, .ref a4, .ref a5, .int (nI fn), .int (nI qn), .long sd])), (a1, .inl (cJ, 12, .inr (.inl u))), (a2, .inl (cJ, 12, .inr (.inl d))), (aw, .inl (cJ, 64, .inr (.inl (kl_whI (kvX0_at 12 u (fs + (nI i))) ((kvX0_at 12 d (fs + (nI i))) - (kvX0_at 12 u (fs + (nI i)))) (2 ^ i) (kl_whO u d fs w i) 0))))]) := oo_Dre hD (oo_fc (oo_fc (oo_fc (oo_fc rfl))))
      refine oo_loop (N := (2 ^ i)) (fun n H locs ls => va_P D vwCl ([(h, .inr (0, [.ref a1, .ref a2, .ref a3, .ref a4, .ref a5, .int (nI fn), .int (nI qn), .long sd])), (a1, .inl (cJ, 12, .inr (.inl u))), (a2, .inl (cJ, 12, .inr (.inl d))), (aw, .inl (cJ, 64, .inr (.inl (kl_whI (kvX0_at 12 u (fs + (nI i))) ((kvX0_at 12 d (fs + (nI i))) - (kvX0_at 12 u (fs + (nI i)))) (2 ^ i) (kl_whO u d fs w i) n))))]) H ∧ va_D (va_A ([(h, .inr (0, [.ref a1, .ref a2, .ref a3, .ref a4, .ref a5, .int (nI fn), .int (nI qn), .long sd])), (a1, .inl (cJ, 12, .inr (.inl u))), (a2, .inl (cJ, 12, .inr (.inl d))), (aw, .inl (cJ, 64, .inr (.inl w)))]) s.heap.size) ([(h, .inr (0, [.ref a1, .ref a2, .ref a3, .ref a4, .ref a5, .int (nI fn), .int (nI qn), .long sd])), (a1, .inl (cJ, 12, .inr (.inl u))), (a2, .inl (cJ, 12, .inr (.inl d))), (aw, .inl (cJ, 64, .inr (.inl (kl_whI (kvX0_at 12 u (fs + (nI i))) ((kvX0_at 12 d (fs + (nI i))) - (kvX0_at 12 u (fs + (nI i)))) (2 ^ i) (kl_whO u d fs w i) n))))]) ∧ va_S (va_A ([(h, .inr (0, [.ref a1, .ref a2, .ref a3, .ref a4, .ref a5, .int (nI fn), .int (nI qn), .long sd])), (a1, .inl (cJ, 12, .inr (.inl u))), (a2, .inl (cJ, 12, .inr (.inl d))), (aw, .inl (cJ, 64, .inr (.inl w)))]) s.heap.size) s.heap H locs ∧ lv_has ls 12 [(0, .ref h), (1, .ref aw), (2, .int fs), (3, .int (nI i)), (4, .long (kvX0_at 12 u (fs + (nI i)))), (6, .long ((kvX0_at 12 d (fs + (nI i))) - (kvX0_at 12 u (fs + (nI i))))), (8, .int (nI (2 ^ i))), (9, .int (nI n))]) ?_ ?_ 0 (Nat.zero_le _) ⟨hP, hD, hS, hl⟩
      · intro H locs ls hI
        obtain ⟨hP, hD, hS, hl⟩ := hI
        refine lv_iload hx hb dX0_weighHalf_49 (lv_at hl 7 rfl) ?_
        refine lv_iload hx hb dX0_weighHalf_51 (lv_at hl 6 rfl) ?_
        refine lv_icmp_ge (tgt := 95) hx hb dX0_weighHalf_53 (by decide) (fun c_53 => ?_) (fun c_53 => ?_)
        · refine lv_iinc (v := nI (i + 1)) (lv' := [(3, .int (nI (i + 1))), (0, .ref h), (1, .ref aw), (2, .int fs), (4, .long (kvX0_at 12 u (fs + (nI i)))), (6, .long ((kvX0_at 12 d (fs + (nI i))) - (kvX0_at 12 u (fs + (nI i))))), (8, .int (nI (2 ^ i))), (9, .int (nI (2 ^ i)))]) hx hb dX0_weighHalf_95 hl (k := 3) rfl (oo_inc i 1) (by decide) rfl (fun ls hl => ?_)
          refine lv_goto (tgt := 8) hx hb dX0_weighHalf_98 (by decide) ?_
          have hl : lv_has ls 12 [(0, .ref h), (1, .ref aw), (2, .int fs), (3, .int (nI (i + 1)))] := lv_sub hl [1, 2, 3, 0] rfl
          have hP := Eq.mp (congrArg (fun z9 => va_P D vwCl ([(h, .inr (0, [.ref a1, .ref a2, .ref a3, .ref a4, .ref a5, .int (nI fn), .int (nI qn), .long sd])), (a1, .inl (cJ, 12, .inr (.inl u))), (a2, .inl (cJ, 12, .inr (.inl d))), (aw, .inl (cJ, 64, .inr (.inl z9)))]) H) (show kl_whI (kvX0_at 12 u (fs + (nI i))) ((kvX0_at 12 d (fs + (nI i))) - (kvX0_at 12 u (fs + (nI i)))) (2 ^ i) (kl_whO u d fs w i) (2 ^ i) = kl_whO u d fs w (i + 1) from (by simp only [kl_whO]))) hP
          have hP : va_P D vwCl ([(h, .inr (0, [.ref a1, .ref a2, .ref a3, .ref a4, .ref a5, .int (nI fn), .int (nI qn), .long sd])), (a1, .inl (cJ, 12, .inr (.inl u))), (a2, .inl (cJ, 12, .inr (.inl d))), (aw, .inl (cJ, 64, .inr (.inl (kl_whO u d fs w (i + 1)))))]) H := hP
          have hD : va_D _ ([(h, .inr (0, [.ref a1, .ref a2, .ref a3, .ref a4, .ref a5, .int (nI fn), .int (nI qn), .long sd])), (a1, .inl (cJ, 12, .inr (.inl u))), (a2, .inl (cJ, 12, .inr (.inl d))), (aw, .inl (cJ, 64, .inr (.inl (kl_whO u d fs w (i + 1)))))]) := oo_Dre hD (oo_fc (oo_fc (oo_fc (oo_fc rfl))))
          exact ihi _ _ _ ⟨hP, hD, hS, hl⟩
        · exact absurd (nI_le (Nat.le_refl _) (by omega)) c_53
      · intro n hltn ihn H locs ls hI
        obtain ⟨hP, hD, hS, hl⟩ := hI
        refine lv_iload hx hb dX0_weighHalf_49 (lv_at hl 7 rfl) ?_
        refine lv_iload hx hb dX0_weighHalf_51 (lv_at hl 6 rfl) ?_
        refine lv_icmp_ge (tgt := 95) hx hb dX0_weighHalf_53 (by decide) (fun c_53 => ?_) (fun c_53 => ?_)
        · exact absurd c_53 (nI_ge hltn (by omega))
        · refine lv_aload_n hx hb dX0_weighHalf_56 rfl (lv_at hl 1 rfl) ?_
          refine lv_iload hx hb dX0_weighHalf_57 (lv_at hl 7 rfl) ?_
          refine ro_calll (va_runS (As := [.ref aw, .int (nI n)]) (rest := []) ⟨hx, hb, hml, hown, hts⟩ (kX0_at l D cJ aw 64 (kl_whI (kvX0_at 12 u (fs + (nI i))) ((kvX0_at 12 d (fs + (nI i))) - (kvX0_at 12 u (fs + (nI i)))) (2 ^ i) (kl_whO u d fs w i) n) (nI n) (by omega)) (va_cwS 2 hts gX0_weighHalf_X0_at rfl rfl rfl ok_X0_at ⟨Nat.le_of_ble_eq_true rfl, Nat.le_of_ble_eq_true rfl⟩) ⟨oo_blind, oo_ps hP hK [3] rfl [0] rfl⟩ rfl rfl hl.1 rfl (lv_room (Nat.le_of_ble_eq_true rfl)) dX0_weighHalf_59 ⟨Nat.le_of_ble_eq_true rfl, Nat.le_of_ble_eq_true rfl⟩) hP hS (fun H locs hP hS => ?_)
          refine lv_lstore (lv' := [(10, .long (kvX0_at 64 (kl_whI (kvX0_at 12 u (fs + (nI i))) ((kvX0_at 12 d (fs + (nI i))) - (kvX0_at 12 u (fs + (nI i)))) (2 ^ i) (kl_whO u d fs w i) n) (nI n))), (0, .ref h), (1, .ref aw), (2, .int fs), (3, .int (nI i)), (4, .long (kvX0_at 12 u (fs + (nI i)))), (6, .long ((kvX0_at 12 d (fs + (nI i))) - (kvX0_at 12 u (fs + (nI i))))), (8, .int (nI (2 ^ i))), (9, .int (nI n))]) hx hb dX0_weighHalf_62 hl (by decide) rfl (fun ls hl => ?_)
          refine lv_aload_n hx hb dX0_weighHalf_64 rfl (lv_at hl 2 rfl) ?_
          refine lv_iload hx hb dX0_weighHalf_65 (lv_at hl 8 rfl) ?_
          refine lv_lload hx hb dX0_weighHalf_67 (lv_at hl 0 rfl) ?_
          refine lv_lload hx hb dX0_weighHalf_69 (lv_at hl 6 rfl) ?_
          refine lv_lmul hx hb dX0_weighHalf_71 ?_
          refine mu_callv (va_runS (As := [.ref aw, .int (nI n), .long ((kvX0_at 64 (kl_whI (kvX0_at 12 u (fs + (nI i))) ((kvX0_at 12 d (fs + (nI i))) - (kvX0_at 12 u (fs + (nI i)))) (2 ^ i) (kl_whO u d fs w i) n) (nI n)) * ((kvX0_at 12 d (fs + (nI i))) - (kvX0_at 12 u (fs + (nI i)))))]) (rest := []) ⟨hx, hb, hml, hown, hts⟩ (kX0_put l D cJ aw 64 (kl_whI (kvX0_at 12 u (fs + (nI i))) ((kvX0_at 12 d (fs + (nI i))) - (kvX0_at 12 u (fs + (nI i)))) (2 ^ i) (kl_whO u d fs w i) n) (nI n) ((kvX0_at 64 (kl_whI (kvX0_at 12 u (fs + (nI i))) ((kvX0_at 12 d (fs + (nI i))) - (kvX0_at 12 u (fs + (nI i)))) (2 ^ i) (kl_whO u d fs w i) n) (nI n)) * ((kvX0_at 12 d (fs + (nI i))) - (kvX0_at 12 u (fs + (nI i))))) (by omega) _) (va_cwS 3 hts gX0_weighHalf_X0_put rfl rfl rfl ok_X0_put ⟨Nat.le_of_ble_eq_true rfl, Nat.le_of_ble_eq_true rfl⟩) ⟨oo_blindM, oo_psM hP hD hK [3] rfl rfl [0] rfl⟩ rfl rfl hl.1 rfl (lv_room (Nat.le_of_ble_eq_true rfl)) dX0_weighHalf_72 ⟨Nat.le_of_ble_eq_true rfl, Nat.le_of_ble_eq_true rfl⟩) hP hD hS hA [3] rfl (oo_fc rfl) (fun H locs hP hD hS => ?_)
          have hP : va_P D vwCl ([(h, .inr (0, [.ref a1, .ref a2, .ref a3, .ref a4, .ref a5, .int (nI fn), .int (nI qn), .long sd])), (a1, .inl (cJ, 12, .inr (.inl u))), (a2, .inl (cJ, 12, .inr (.inl d))), (aw, .inl (cJ, 64, .inr (.inl (kvX0_put_c0 64 (kl_whI (kvX0_at 12 u (fs + (nI i))) ((kvX0_at 12 d (fs + (nI i))) - (kvX0_at 12 u (fs + (nI i)))) (2 ^ i) (kl_whO u d fs w i) n) (nI n) ((kvX0_at 64 (kl_whI (kvX0_at 12 u (fs + (nI i))) ((kvX0_at 12 d (fs + (nI i))) - (kvX0_at 12 u (fs + (nI i)))) (2 ^ i) (kl_whO u d fs w i) n) (nI n)) * ((kvX0_at 12 d (fs + (nI i))) - (kvX0_at 12 u (fs + (nI i)))))))))]) H := hP
          have hD : va_D _ ([(h, .inr (0, [.ref a1, .ref a2, .ref a3, .ref a4, .ref a5, .int (nI fn), .int (nI qn), .long sd])), (a1, .inl (cJ, 12, .inr (.inl u))), (a2, .inl (cJ, 12, .inr (.inl d))), (aw, .inl (cJ, 64, .inr (.inl (kvX0_put_c0 64 (kl_whI (kvX0_at 12 u (fs + (nI i))) ((kvX0_at 12 d (fs + (nI i))) - (kvX0_at 12 u (fs + (nI i)))) (2 ^ i) (kl_whO u d fs w i) n) (nI n) ((kvX0_at 64 (kl_whI (kvX0_at 12 u (fs + (nI i))) ((kvX0_at 12 d (fs + (nI i))) - (kvX0_at 12 u (fs + (nI i)))) (2 ^ i) (kl_whO u d fs w i) n) (nI n)) * ((kvX0_at 12 d (fs + (nI i))) - (kvX0_at 12 u (fs + (nI i)))))))))]) := hD
          refine lv_aload_n hx hb dX0_weighHalf_75 rfl (lv_at hl 2 rfl) ?_
          refine lv_iload hx hb dX0_weighHalf_76 (lv_at hl 8 rfl) ?_
          refine lv_iload hx hb dX0_weighHalf_78 (lv_at hl 7 rfl) ?_
          refine lv_iadd hx hb dX0_weighHalf_80 ?_
          refine lv_lload hx hb dX0_weighHalf_81 (lv_at hl 0 rfl) ?_
          refine lv_lload hx hb dX0_weighHalf_83 (lv_at hl 5 rfl) ?_
          refine lv_lmul hx hb dX0_weighHalf_85 ?_
          refine mu_callv (va_runS (As := [.ref aw, .int ((nI n) + (nI (2 ^ i))), .long ((kvX0_at 64 (kl_whI (kvX0_at 12 u (fs + (nI i))) ((kvX0_at 12 d (fs + (nI i))) - (kvX0_at 12 u (fs + (nI i)))) (2 ^ i) (kl_whO u d fs w i) n) (nI n)) * (kvX0_at 12 u (fs + (nI i))))]) (rest := []) ⟨hx, hb, hml, hown, hts⟩ (kX0_put l D cJ aw 64 (kvX0_put_c0 64 (kl_whI (kvX0_at 12 u (fs + (nI i))) ((kvX0_at 12 d (fs + (nI i))) - (kvX0_at 12 u (fs + (nI i)))) (2 ^ i) (kl_whO u d fs w i) n) (nI n) ((kvX0_at 64 (kl_whI (kvX0_at 12 u (fs + (nI i))) ((kvX0_at 12 d (fs + (nI i))) - (kvX0_at 12 u (fs + (nI i)))) (2 ^ i) (kl_whO u d fs w i) n) (nI n)) * ((kvX0_at 12 d (fs + (nI i))) - (kvX0_at 12 u (fs + (nI i)))))) ((nI n) + (nI (2 ^ i))) ((kvX0_at 64 (kl_whI (kvX0_at 12 u (fs + (nI i))) ((kvX0_at 12 d (fs + (nI i))) - (kvX0_at 12 u (fs + (nI i)))) (2 ^ i) (kl_whO u d fs w i) n) (nI n)) * (kvX0_at 12 u (fs + (nI i)))) (by omega) _) (va_cwS 3 hts gX0_weighHalf_X0_put rfl rfl rfl ok_X0_put ⟨Nat.le_of_ble_eq_true rfl, Nat.le_of_ble_eq_true rfl⟩) ⟨oo_blindM, oo_psM hP hD hK [3] rfl rfl [0] rfl⟩ rfl rfl hl.1 rfl (lv_room (Nat.le_of_ble_eq_true rfl)) dX0_weighHalf_86 ⟨Nat.le_of_ble_eq_true rfl, Nat.le_of_ble_eq_true rfl⟩) hP hD hS hA [3] rfl (oo_fc rfl) (fun H locs hP hD hS => ?_)
          have hP : va_P D vwCl ([(h, .inr (0, [.ref a1, .ref a2, .ref a3, .ref a4, .ref a5, .int (nI fn), .int (nI qn), .long sd])), (a1, .inl (cJ, 12, .inr (.inl u))), (a2, .inl (cJ, 12, .inr (.inl d))), (aw, .inl (cJ, 64, .inr (.inl (kvX0_put_c0 64 (kvX0_put_c0 64 (kl_whI (kvX0_at 12 u (fs + (nI i))) ((kvX0_at 12 d (fs + (nI i))) - (kvX0_at 12 u (fs + (nI i)))) (2 ^ i) (kl_whO u d fs w i) n) (nI n) ((kvX0_at 64 (kl_whI (kvX0_at 12 u (fs + (nI i))) ((kvX0_at 12 d (fs + (nI i))) - (kvX0_at 12 u (fs + (nI i)))) (2 ^ i) (kl_whO u d fs w i) n) (nI n)) * ((kvX0_at 12 d (fs + (nI i))) - (kvX0_at 12 u (fs + (nI i)))))) ((nI n) + (nI (2 ^ i))) ((kvX0_at 64 (kl_whI (kvX0_at 12 u (fs + (nI i))) ((kvX0_at 12 d (fs + (nI i))) - (kvX0_at 12 u (fs + (nI i)))) (2 ^ i) (kl_whO u d fs w i) n) (nI n)) * (kvX0_at 12 u (fs + (nI i))))))))]) H := hP
          have hD : va_D _ ([(h, .inr (0, [.ref a1, .ref a2, .ref a3, .ref a4, .ref a5, .int (nI fn), .int (nI qn), .long sd])), (a1, .inl (cJ, 12, .inr (.inl u))), (a2, .inl (cJ, 12, .inr (.inl d))), (aw, .inl (cJ, 64, .inr (.inl (kvX0_put_c0 64 (kvX0_put_c0 64 (kl_whI (kvX0_at 12 u (fs + (nI i))) ((kvX0_at 12 d (fs + (nI i))) - (kvX0_at 12 u (fs + (nI i)))) (2 ^ i) (kl_whO u d fs w i) n) (nI n) ((kvX0_at 64 (kl_whI (kvX0_at 12 u (fs + (nI i))) ((kvX0_at 12 d (fs + (nI i))) - (kvX0_at 12 u (fs + (nI i)))) (2 ^ i) (kl_whO u d fs w i) n) (nI n)) * ((kvX0_at 12 d (fs + (nI i))) - (kvX0_at 12 u (fs + (nI i)))))) ((nI n) + (nI (2 ^ i))) ((kvX0_at 64 (kl_whI (kvX0_at 12 u (fs + (nI i))) ((kvX0_at 12 d (fs + (nI i))) - (kvX0_at 12 u (fs + (nI i)))) (2 ^ i) (kl_whO u d fs w i) n) (nI n)) * (kvX0_at 12 u (fs + (nI i))))))))]) := hD
          refine lv_iinc (v := nI (n + 1)) (lv' := [(9, .int (nI (n + 1))), (10, .long (kvX0_at 64 (kl_whI (kvX0_at 12 u (fs + (nI i))) ((kvX0_at 12 d (fs + (nI i))) - (kvX0_at 12 u (fs + (nI i)))) (2 ^ i) (kl_whO u d fs w i) n) (nI n))), (0, .ref h), (1, .ref aw), (2, .int fs), (3, .int (nI i)), (4, .long (kvX0_at 12 u (fs + (nI i)))), (6, .long ((kvX0_at 12 d (fs + (nI i))) - (kvX0_at 12 u (fs + (nI i))))), (8, .int (nI (2 ^ i)))]) hx hb dX0_weighHalf_89 hl (k := 8) rfl (oo_inc n 1) (by decide) rfl (fun ls hl => ?_)
          refine lv_goto (tgt := 49) hx hb dX0_weighHalf_92 (by decide) ?_
          have hl : lv_has ls 12 [(0, .ref h), (1, .ref aw), (2, .int fs), (3, .int (nI i)), (4, .long (kvX0_at 12 u (fs + (nI i)))), (6, .long ((kvX0_at 12 d (fs + (nI i))) - (kvX0_at 12 u (fs + (nI i))))), (8, .int (nI (2 ^ i))), (9, .int (nI (n + 1)))] := lv_sub hl [2, 3, 4, 5, 6, 7, 8, 0] rfl
          have hP := Eq.mp (congrArg (fun z9 => va_P D vwCl ([(h, .inr (0, [.ref a1, .ref a2, .ref a3, .ref a4, .ref a5, .int (nI fn), .int (nI qn), .long sd])), (a1, .inl (cJ, 12, .inr (.inl u))), (a2, .inl (cJ, 12, .inr (.inl d))), (aw, .inl (cJ, 64, .inr (.inl z9)))]) H) (show kvX0_put_c0 64 (kvX0_put_c0 64 (kl_whI (kvX0_at 12 u (fs + (nI i))) ((kvX0_at 12 d (fs + (nI i))) - (kvX0_at 12 u (fs + (nI i)))) (2 ^ i) (kl_whO u d fs w i) n) (nI n) ((kvX0_at 64 (kl_whI (kvX0_at 12 u (fs + (nI i))) ((kvX0_at 12 d (fs + (nI i))) - (kvX0_at 12 u (fs + (nI i)))) (2 ^ i) (kl_whO u d fs w i) n) (nI n)) * ((kvX0_at 12 d (fs + (nI i))) - (kvX0_at 12 u (fs + (nI i)))))) ((nI n) + (nI (2 ^ i))) ((kvX0_at 64 (kl_whI (kvX0_at 12 u (fs + (nI i))) ((kvX0_at 12 d (fs + (nI i))) - (kvX0_at 12 u (fs + (nI i)))) (2 ^ i) (kl_whO u d fs w i) n) (nI n)) * (kvX0_at 12 u (fs + (nI i)))) = kl_whI (kvX0_at 12 u (fs + (nI i))) ((kvX0_at 12 d (fs + (nI i))) - (kvX0_at 12 u (fs + (nI i)))) (2 ^ i) (kl_whO u d fs w i) (n + 1) from (by simp only [kl_whI]))) hP
          have hP : va_P D vwCl ([(h, .inr (0, [.ref a1, .ref a2, .ref a3, .ref a4, .ref a5, .int (nI fn), .int (nI qn), .long sd])), (a1, .inl (cJ, 12, .inr (.inl u))), (a2, .inl (cJ, 12, .inr (.inl d))), (aw, .inl (cJ, 64, .inr (.inl (kl_whI (kvX0_at 12 u (fs + (nI i))) ((kvX0_at 12 d (fs + (nI i))) - (kvX0_at 12 u (fs + (nI i)))) (2 ^ i) (kl_whO u d fs w i) (n + 1)))))]) H := hP
          have hD : va_D _ ([(h, .inr (0, [.ref a1, .ref a2, .ref a3, .ref a4, .ref a5, .int (nI fn), .int (nI qn), .long sd])), (a1, .inl (cJ, 12, .inr (.inl u))), (a2, .inl (cJ, 12, .inr (.inl d))), (aw, .inl (cJ, 64, .inr (.inl (kl_whI (kvX0_at 12 u (fs + (nI i))) ((kvX0_at 12 d (fs + (nI i))) - (kvX0_at 12 u (fs + (nI i)))) (2 ^ i) (kl_whO u d fs w i) (n + 1)))))]) := oo_Dre hD (oo_fc (oo_fc (oo_fc (oo_fc rfl))))
          exact ihn _ _ _ ⟨hP, hD, hS, hl⟩
theorem ok_X0_weigh : yX0_weigh.cls = RX0 ∧ yX0_weigh.cls ≠ "java/lang/invoke/MethodHandle" ∧ yX0_weigh.cls ≠ "java/lang/invoke/VarHandle" ∧ (parseMethodDescriptor yX0_weigh.desc).map (fun d => d.parameters.length) = some 0 := by decide +kernel
set_option maxHeartbeats 4000000 in
set_option maxRecDepth 100000 in
theorem kX0_weigh (l : Launch) (D : va_G) (cJ : ClassId) (h a1 a2 a3 a4 a5 : Nat) (u d lw uw an : Nat → Int64) (fn qn : Nat) (sd : Int64)  : MuV l yX0_weigh wsX0_weigh ({ frames := 2, cells := 0, slots := 0, locals := 54 } : Room) [.ref h] D (xW cJ h a1 a2 a3 a4 a5 u d lw uw an (nI fn) (nI qn) sd) [(cJ, .long)] (xW cJ h a1 a2 a3 a4 a5 u d (kl_whO u d (0 : Int32) lw 6) (kl_whO u d (nI 6) uw 6) an (nI fn) (nI qn) sd) := by
  intro sz
  refine oo_head (C := RX0) (cc := cX0_weigh) (maxL := 1) (ret := none) (by decide) rfl rfl (Nat.le_of_ble_eq_true rfl) ?_
  intro p e s m below meth c hx hb hr hlocks hml hown hnm hts hpre ls hl
  have hl : lv_has ls 1 [(0, .ref h)] := hl
  obtain ⟨rfl, hP, hK, hD0⟩ := hpre
  have hD := hD0.self (sz := s.heap.size)
  have hA := oo_A (xW cJ h a1 a2 a3 a4 a5 u d lw uw an (nI fn) (nI qn) sd) s
  have hS : va_S (va_A (xW cJ h a1 a2 a3 a4 a5 u d lw uw an (nI fn) (nI qn) sd) s.heap.size) s.heap s.heap [] := va_S.rf
  have hin : ∀ w ∈ wsX00, w ∈ wsX0_weigh := fun w h => List.mem_cons_of_mem _ (List.mem_append_right _ h)
  refine lv_aload_n hx hb dX0_weigh_0 rfl (lv_at hl 0 rfl) ?_
  refine lv_aload_n hx hb dX0_weigh_1 rfl (lv_at hl 0 rfl) ?_
  refine va_get (D := D) (ci := 0) (v := .ref a3) (C := RX0) (T := TX0) (N := 8) hx hb hts hin hown hK hP 0 rfl rfl 2 (by decide) (hts (.fieldLink RX0 16 "OddsSampling" "lowerWeights" "[J") (by decide +kernel)) (fun _ h9 => h9) rfl dX0_weigh_2 ?_
  refine lv_iconst (v := (0 : Int32)) hx hb dX0_weigh_5 (by decide) ?_
  refine mu_callv (va_runV (As := [.ref a3, .int (0 : Int32)]) (rest := []) ⟨hx, hb, hml, hown, hts⟩ (kX0_weighHalf l D cJ h a1 a2 a3 a4 a5 a3 u d lw fn qn sd (0 : Int32) _) (cwV 2 hts gX0_weigh_X0_weighHalf rfl rfl rfl ok_X0_weighHalf ⟨Nat.le_of_ble_eq_true rfl, Nat.le_of_ble_eq_true rfl⟩) ⟨oo_blindM, va_recv hK hP (ci := 0) (q0 := 0) rfl rfl, oo_psM hP hD hK [0, 1, 2, 3] rfl rfl [0] rfl⟩ rfl rfl hl.1 rfl (lv_room (Nat.le_of_ble_eq_true rfl)) dX0_weigh_6 ⟨Nat.le_of_ble_eq_true rfl, Nat.le_of_ble_eq_true rfl⟩) hP hD hS hA [0, 1, 2, 3] rfl (oo_fc (oo_fc (oo_fc (oo_fc rfl)))) (fun H locs hP hD hS => ?_)
  have hP : va_P D vwCl (xW cJ h a1 a2 a3 a4 a5 u d (kl_whO u d (0 : Int32) lw 6) uw an (nI fn) (nI qn) sd) H := hP
  have hD : va_D _ (xW cJ h a1 a2 a3 a4 a5 u d (kl_whO u d (0 : Int32) lw 6) uw an (nI fn) (nI qn) sd) := hD
  refine lv_aload_n hx hb dX0_weigh_9 rfl (lv_at hl 0 rfl) ?_
  refine lv_aload_n hx hb dX0_weigh_10 rfl (lv_at hl 0 rfl) ?_
  refine va_get (D := D) (ci := 0) (v := .ref a4) (C := RX0) (T := TX0) (N := 8) hx hb hts hin hown hK hP 0 rfl rfl 3 (by decide) (hts (.fieldLink RX0 19 "OddsSampling" "upperWeights" "[J") (by decide +kernel)) (fun _ h9 => h9) rfl dX0_weigh_11 ?_
  refine lv_bipush (v := nI 6) hx hb dX0_weigh_14 (by decide) ?_
  refine mu_callv (va_runV (As := [.ref a4, .int (nI 6)]) (rest := []) ⟨hx, hb, hml, hown, hts⟩ (kX0_weighHalf l D cJ h a1 a2 a3 a4 a5 a4 u d uw fn qn sd (nI 6) _) (cwV 2 hts gX0_weigh_X0_weighHalf rfl rfl rfl ok_X0_weighHalf ⟨Nat.le_of_ble_eq_true rfl, Nat.le_of_ble_eq_true rfl⟩) ⟨oo_blindM, va_recv hK hP (ci := 0) (q0 := 0) rfl rfl, oo_psM hP hD hK [0, 1, 2, 4] rfl rfl [0] rfl⟩ rfl rfl hl.1 rfl (lv_room (Nat.le_of_ble_eq_true rfl)) dX0_weigh_16 ⟨Nat.le_of_ble_eq_true rfl, Nat.le_of_ble_eq_true rfl⟩) hP hD hS hA [0, 1, 2, 4] rfl (oo_fc (oo_fc (oo_fc (oo_fc rfl)))) (fun H locs hP hD hS => ?_)
  have hP : va_P D vwCl (xW cJ h a1 a2 a3 a4 a5 u d (kl_whO u d (0 : Int32) lw 6) (kl_whO u d (nI 6) uw 6) an (nI fn) (nI qn) sd) H := hP
  have hD : va_D _ (xW cJ h a1 a2 a3 a4 a5 u d (kl_whO u d (0 : Int32) lw 6) (kl_whO u d (nI 6) uw 6) an (nI fn) (nI qn) sd) := hD
  exact mu_retv hx hb hr hlocks hP hD hS dX0_weigh_19
theorem ok_X0_putOdds : yX0_putOdds.cls = RX0 ∧ yX0_putOdds.cls ≠ "java/lang/invoke/MethodHandle" ∧ yX0_putOdds.cls ≠ "java/lang/invoke/VarHandle" ∧ (parseMethodDescriptor yX0_putOdds.desc).map (fun d => d.parameters.length) = some 3 := by decide +kernel
set_option maxHeartbeats 4000000 in
set_option maxRecDepth 100000 in
theorem kX0_putOdds (l : Launch) (D : va_G) (cJ : ClassId) (h a1 a2 a3 a4 a5 : Nat) (u d lw uw an : Nat → Int64) (fn qn : Nat) (sd : Int64) (k : Int32) (up : Int64) (dn : Int64) : MuV l yX0_putOdds wsX0_putOdds ({ frames := 3, cells := 0, slots := 0, locals := 74 } : Room) [.ref h, .int k, .long up, .long dn] D (xW cJ h a1 a2 a3 a4 a5 u d lw uw an (nI fn) (nI qn) sd) [(cJ, .long)] (xW cJ h a1 a2 a3 a4 a5 (kvX0_put_c0 12 u k up) (kvX0_put_c0 12 d k dn) (kl_whO (kvX0_put_c0 12 u k up) (kvX0_put_c0 12 d k dn) (0 : Int32) lw 6) (kl_whO (kvX0_put_c0 12 u k up) (kvX0_put_c0 12 d k dn) (nI 6) uw 6) an (nI fn) (nI qn) sd) := by
  intro sz
  refine oo_head (C := RX0) (cc := cX0_putOdds) (maxL := 6) (ret := none) (by decide) rfl rfl (Nat.le_of_ble_eq_true rfl) ?_
  intro p e s m below meth c hx hb hr hlocks hml hown hnm hts hpre ls hl
  have hl : lv_has ls 6 [(0, .ref h), (1, .int k), (2, .long up), (4, .long dn)] := hl
  obtain ⟨rfl, hP, hK, hD0⟩ := hpre
  have hD := hD0.self (sz := s.heap.size)
  have hA := oo_A (xW cJ h a1 a2 a3 a4 a5 u d lw uw an (nI fn) (nI qn) sd) s
  have hS : va_S (va_A (xW cJ h a1 a2 a3 a4 a5 u d lw uw an (nI fn) (nI qn) sd) s.heap.size) s.heap s.heap [] := va_S.rf
  have hin : ∀ w ∈ wsX00, w ∈ wsX0_putOdds := fun w h => List.mem_cons_of_mem _ (List.mem_append_right _ h)
  refine lv_aload_n hx hb dX0_putOdds_0 rfl (lv_at hl 0 rfl) ?_
  refine va_get (D := D) (ci := 0) (v := .ref a1) (C := RX0) (T := TX0) (N := 8) hx hb hts hin hown hK hP 0 rfl rfl 0 (by decide) (hts (.fieldLink RX0 9 "OddsSampling" "ups" "[J") (by decide +kernel)) (fun _ h9 => h9) rfl dX0_putOdds_1 ?_
  refine lv_iload_n hx hb dX0_putOdds_4 rfl (lv_at hl 1 rfl) ?_
  refine lv_lload_n hx hb dX0_putOdds_5 rfl (lv_at hl 2 rfl) ?_
  refine mu_callv (va_runS (As := [.ref a1, .int k, .long up]) (rest := []) ⟨hx, hb, hml, hown, hts⟩ (kX0_put l D cJ a1 12 u k up (by omega) _) (va_cwS 3 hts gX0_putOdds_X0_put rfl rfl rfl ok_X0_put ⟨Nat.le_of_ble_eq_true rfl, Nat.le_of_ble_eq_true rfl⟩) ⟨oo_blindM, oo_psM hP hD hK [1] rfl rfl [0] rfl⟩ rfl rfl hl.1 rfl (lv_room (Nat.le_of_ble_eq_true rfl)) dX0_putOdds_6 ⟨Nat.le_of_ble_eq_true rfl, Nat.le_of_ble_eq_true rfl⟩) hP hD hS hA [1] rfl (oo_fc rfl) (fun H locs hP hD hS => ?_)
  have hP : va_P D vwCl (xW cJ h a1 a2 a3 a4 a5 (kvX0_put_c0 12 u k up) d lw uw an (nI fn) (nI qn) sd) H := hP
  have hD : va_D _ (xW cJ h a1 a2 a3 a4 a5 (kvX0_put_c0 12 u k up) d lw uw an (nI fn) (nI qn) sd) := hD
  refine lv_aload_n hx hb dX0_putOdds_9 rfl (lv_at hl 0 rfl) ?_
  refine va_get (D := D) (ci := 0) (v := .ref a2) (C := RX0) (T := TX0) (N := 8) hx hb hts hin hown hK hP 0 rfl rfl 1 (by decide) (hts (.fieldLink RX0 13 "OddsSampling" "downs" "[J") (by decide +kernel)) (fun _ h9 => h9) rfl dX0_putOdds_10 ?_
  refine lv_iload_n hx hb dX0_putOdds_13 rfl (lv_at hl 1 rfl) ?_
  refine lv_lload hx hb dX0_putOdds_14 (lv_at hl 3 rfl) ?_
  refine mu_callv (va_runS (As := [.ref a2, .int k, .long dn]) (rest := []) ⟨hx, hb, hml, hown, hts⟩ (kX0_put l D cJ a2 12 d k dn (by omega) _) (va_cwS 3 hts gX0_putOdds_X0_put rfl rfl rfl ok_X0_put ⟨Nat.le_of_ble_eq_true rfl, Nat.le_of_ble_eq_true rfl⟩) ⟨oo_blindM, oo_psM hP hD hK [2] rfl rfl [0] rfl⟩ rfl rfl hl.1 rfl (lv_room (Nat.le_of_ble_eq_true rfl)) dX0_putOdds_16 ⟨Nat.le_of_ble_eq_true rfl, Nat.le_of_ble_eq_true rfl⟩) hP hD hS hA [2] rfl (oo_fc rfl) (fun H locs hP hD hS => ?_)
  have hP : va_P D vwCl (xW cJ h a1 a2 a3 a4 a5 (kvX0_put_c0 12 u k up) (kvX0_put_c0 12 d k dn) lw uw an (nI fn) (nI qn) sd) H := hP
  have hD : va_D _ (xW cJ h a1 a2 a3 a4 a5 (kvX0_put_c0 12 u k up) (kvX0_put_c0 12 d k dn) lw uw an (nI fn) (nI qn) sd) := hD
  refine lv_aload_n hx hb dX0_putOdds_19 rfl (lv_at hl 0 rfl) ?_
  refine mu_callv (va_runV (As := []) (rest := []) ⟨hx, hb, hml, hown, hts⟩ (kX0_weigh l D cJ h a1 a2 a3 a4 a5 (kvX0_put_c0 12 u k up) (kvX0_put_c0 12 d k dn) lw uw an fn qn sd _) (cwV 0 hts gX0_putOdds_X0_weigh rfl rfl rfl ok_X0_weigh ⟨Nat.le_of_ble_eq_true rfl, Nat.le_of_ble_eq_true rfl⟩) ⟨oo_blindM, va_recv hK hP (ci := 0) (q0 := 0) rfl rfl, oo_psM hP hD hK [0, 1, 2, 3, 4, 5] rfl rfl [0] rfl⟩ rfl rfl hl.1 rfl (lv_room (Nat.le_of_ble_eq_true rfl)) dX0_putOdds_20 ⟨Nat.le_of_ble_eq_true rfl, Nat.le_of_ble_eq_true rfl⟩) hP hD hS hA [0, 1, 2, 3, 4, 5] rfl (oo_fc (oo_fc (oo_fc (oo_fc (oo_fc (oo_fc rfl)))))) (fun H locs hP hD hS => ?_)
  have hP : va_P D vwCl (xW cJ h a1 a2 a3 a4 a5 (kvX0_put_c0 12 u k up) (kvX0_put_c0 12 d k dn) (kl_whO (kvX0_put_c0 12 u k up) (kvX0_put_c0 12 d k dn) (0 : Int32) lw 6) (kl_whO (kvX0_put_c0 12 u k up) (kvX0_put_c0 12 d k dn) (nI 6) uw 6) an (nI fn) (nI qn) sd) H := hP
  have hD : va_D _ (xW cJ h a1 a2 a3 a4 a5 (kvX0_put_c0 12 u k up) (kvX0_put_c0 12 d k dn) (kl_whO (kvX0_put_c0 12 u k up) (kvX0_put_c0 12 d k dn) (0 : Int32) lw 6) (kl_whO (kvX0_put_c0 12 u k up) (kvX0_put_c0 12 d k dn) (nI 6) uw 6) an (nI fn) (nI qn) sd) := hD
  exact mu_retv hx hb hr hlocks hP hD hS dX0_putOdds_23
