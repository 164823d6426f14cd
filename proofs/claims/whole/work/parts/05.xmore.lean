def kl_whI (up rest : Int64) (sz : Nat) (w : Nat → Int64) : Nat → Nat → Int64
  | 0 => w
  | n + 1 => kvX0_put_c0 64 (kvX0_put_c0 64 (kl_whI up rest sz w n) (nI n) (kvX0_at 64 (kl_whI up rest sz w n) (nI n) * rest)) (nI n + nI sz) (kvX0_at 64 (kl_whI up rest sz w n) (nI n) * up)
def kl_whO (u d : Nat → Int64) (fs : Int32) (w : Nat → Int64) : Nat → Nat → Int64
  | 0 => kvX0_put_c0 64 w (0 : Int32) (1 : Int64)
  | i + 1 => kl_whI (kvX0_at 12 u (fs + nI i)) (kvX0_at 12 d (fs + nI i) - kvX0_at 12 u (fs + nI i)) (2 ^ i) (kl_whO u d fs w i) (2 ^ i)
theorem ok_X0_weighHalf : yX0_weighHalf.cls = RX0 ∧ yX0_weighHalf.cls ≠ "java/lang/invoke/MethodHandle" ∧ yX0_weighHalf.cls ≠ "java/lang/invoke/VarHandle" ∧ (parseMethodDescriptor yX0_weighHalf.desc).map (fun d => d.parameters.length) = some 2 := by decide +kernel
set_option maxHeartbeats 4000000 in
set_option maxRecDepth 100000 in
theorem kX0_weighHalf (l : Launch) (D : va_G) (cJ : ClassId) (h a1 a2 a3 a4 a5 aw : Nat) (u d w : Nat → Int64) (fn qn : Nat) (sd : Int64) (fs : Int32) : MuV l yX0_weighHalf wsX0_weighHalf ({ frames := 1, cells := 0, slots := 0, locals := 23 } : Room) [.ref h, .ref aw, .int fs] D ([(h, .inr (0, [.ref a1, .ref a2, .ref a3, .ref a4, .ref a5, .int (nI fn), .int (nI qn), .long sd])), (a1, .inl (cJ, 12, .inr (.inl u))), (a2, .inl (cJ, 12, .inr (.inl d))), (aw, .inl (cJ, 64, .inr (.inl w)))]) [(cJ, .long)] ([(h, .inr (0, [.ref a1, .ref a2, .ref a3, .ref a4, .ref a5, .int (nI fn), .int (nI qn), .long sd])), (a1, .inl (cJ, 12, .inr (.inl u))), (a2, .inl (cJ, 12, .inr (.inl d))), (aw, .inl (cJ, 64, .inr (.inl (kl_whO u d fs w 6))))]) := by
  intro sz
  refine oo_head (C := RX0) (cc := cX0_weighHalf) (maxL := 12) (ret := none) (by decide) rfl rfl (Nat.le_of_ble_eq_true rfl) ?_
  intro p e s m below meth c hx hb hr hlocks hml hown hnm hts hpre ls hl
  have hl : lv_has ls 12 [(0, .ref h), (1, .ref aw), (2, .int fs)] := hl
  obtain ⟨rfl, hP, hK, hD0⟩ := hpre
  have hD := hD0.self (sz := s.heap.size)
  have hA := oo_A ([(h, .inr (0, [.ref a1, .ref a2, .ref a3, .ref a4, .ref a5, .int (nI fn), .int (nI qn), .long sd])), (a1, .inl (cJ, 12, .inr (.inl u))), (a2, .inl (cJ, 12, .inr (.inl d))), (aw, .inl (cJ, 64, .inr (.inl w)))]) s
  have hS : va_S (va_A ([(h, .inr (0, [.ref a1, .ref a2, .ref a3, .ref a4, .ref a5, .int (nI fn), .int (nI qn), .long sd])), (a1, .inl (cJ, 12, .inr (.inl u))), (a2, .inl (cJ, 12, .inr (.inl d))), (aw, .inl (cJ, 64, .inr (.inl w)))]) s.heap.size) s.heap s.heap [] := va_S.rf
  have hin : ∀ w ∈ wsX00, w ∈ wsX0_weighHalf := fun w h => List.mem_cons_of_mem _ (List.mem_append_right _ h)
  refine lv_aload_n hx hb dX0_weighHalf_0 rfl (lv_at hl 1 rfl) ?_
  refine lv_iconst (v := (0 : Int32)) hx hb dX0_weighHalf_1 (by decide) ?_
  refine lv_lconst (v := (1 : Int64)) hx hb dX0_weighHalf_2 (by decide) ?_
  refine mu_callv (va_runS (As := [.ref aw, .int (0 : Int32), .long (1 : Int64)]) (rest := []) ⟨hx, hb, hml, hown, hts⟩ (kX0_put l D cJ aw 64 w (0 : Int32) (1 : Int64) (by omega) _) (va_cwS 3 hts gX0_weighHalf_X0_put rfl rfl rfl ok_X0_put ⟨Nat.le_of_ble_eq_true rfl, Nat.le_of_ble_eq_true rfl⟩) ⟨oo_blindM, oo_psM hP hD hK [3] rfl rfl [0] rfl⟩ rfl rfl hl.1 rfl (lv_room (Nat.le_of_ble_eq_true rfl)) dX0_weighHalf_3 ⟨Nat.le_of_ble_eq_true rfl, Nat.le_of_ble_eq_true rfl⟩) hP hD hS hA [3] rfl rfl (fun H locs hP hD hS => ?_)
  have hP : va_P D vwCl ([(h, .inr (0, [.ref a1, .ref a2, .ref a3, .ref a4, .ref a5, .int (nI fn), .int (nI qn), .long sd])), (a1, .inl (cJ, 12, .inr (.inl u))), (a2, .inl (cJ, 12, .inr (.inl d))), (aw, .inl (cJ, 64, .inr (.inl (kvX0_put_c0 64 w (0 : Int32) (1 : Int64)))))]) H := hP
  have hD : va_D _ ([(h, .inr (0, [.ref a1, .ref a2, .ref a3, .ref a4, .ref a5, .int (nI fn), .int (nI qn), .long sd])), (a1, .inl (cJ, 12, .inr (.inl u))), (a2, .inl (cJ, 12, .inr (.inl d))), (aw, .inl (cJ, 64, .inr (.inl (kvX0_put_c0 64 w (0 : Int32) (1 : Int64)))))]) := hD
  refine lv_iconst (v := nI 0) hx hb dX0_weighHalf_6 (by decide) ?_
  refine lv_istore_n (lv' := [(3, .int (nI 0)), (0, .ref h), (1, .ref aw), (2, .int fs)]) hx hb dX0_weighHalf_7 rfl hl (by decide) rfl (fun ls hl => ?_)
  have hl : lv_has ls 12 [(0, .ref h), (1, .ref aw), (2, .int fs), (3, .int (nI 0))] := lv_sub hl [1, 2, 3, 0] rfl
  have hP := Eq.mp (congrArg (fun z9 => va_P D vwCl ([(h, .inr (0, [.ref a1, .ref a2, .ref a3, .ref a4, .ref a5, .int (nI fn), .int (nI qn), .long sd])), (a1, .inl (cJ, 12, .inr (.inl u))), (a2, .inl (cJ, 12, .inr (.inl d))), (aw, .inl (cJ, 64, .inr (.inl z9)))]) H) (show kvX0_put_c0 64 w (0 : Int32) (1 : Int64) = kl_whO u d fs w 0 from (by first | rfl | (simp only [kl_whO]; done)))) hP
  have hP : va_P D vwCl ([(h, .inr (0, [.ref a1, .ref a2, .ref a3, .ref a4, .ref a5, .int (nI fn), .int (nI qn), .long sd])), (a1, .inl (cJ, 12, .inr (.inl u))), (a2, .inl (cJ, 12, .inr (.inl d))), (aw, .inl (cJ, 64, .inr (.inl (kl_whO u d fs w 0))))]) H := hP
  have hD : va_D _ ([(h, .inr (0, [.ref a1, .ref a2, .ref a3, .ref a4, .ref a5, .int (nI fn), .int (nI qn), .long sd])), (a1, .inl (cJ, 12, .inr (.inl u))), (a2, .inl (cJ, 12, .inr (.inl d))), (aw, .inl (cJ, 64, .inr (.inl (kl_whO u d fs w 0))))]) := oo_Dre hD rfl
  refine oo_loop (N := 6) (fun i H locs ls => va_P D vwCl ([(h, .inr (0, [.ref a1, .ref a2, .ref a3, .ref a4, .ref a5, .int (nI fn), .int (nI qn), .long sd])), (a1, .inl (cJ, 12, .inr (.inl u))), (a2, .inl (cJ, 12, .inr (.inl d))), (aw, .inl (cJ, 64, .inr (.inl (kl_whO u d fs w i))))]) H ∧ va_D (va_A ([(h, .inr (0, [.ref a1, .ref a2, .ref a3, .ref a4, .ref a5, .int (nI fn), .int (nI qn), .long sd])), (a1, .inl (cJ, 12, .inr (.inl u))), (a2, .inl (cJ, 12, .inr (.inl d))), (aw, .inl (cJ, 64, .inr (.inl w)))]) s.heap.size) ([(h, .inr (0, [.ref a1, .ref a2, .ref a3, .ref a4, .ref a5, .int (nI fn), .int (nI qn), .long sd])), (a1, .inl (cJ, 12, .inr (.inl u))), (a2, .inl (cJ, 12, .inr (.inl d))), (aw, .inl (cJ, 64, .inr (.inl (kl_whO u d fs w i))))]) ∧ va_S (va_A ([(h, .inr (0, [.ref a1, .ref a2, .ref a3, .ref a4, .ref a5, .int (nI fn), .int (nI qn), .long sd])), (a1, .inl (cJ, 12, .inr (.inl u))), (a2, .inl (cJ, 12, .inr (.inl d))), (aw, .inl (cJ, 64, .inr (.inl w)))]) s.heap.size) s.heap H locs ∧ lv_has ls 12 [(0, .ref h), (1, .ref aw), (2, .int fs), (3, .int (nI i))]) ?_ ?_ 0 (Nat.zero_le _) ⟨hP, hD, hS, hl⟩
  · intro H locs ls hI
    obtain ⟨hP, hD, hS, hl⟩ := hI
    refine lv_iload_n hx hb dX0_weighHalf_8 rfl (lv_at hl 3 rfl) ?_
    refine lv_bipush (v := nI 6) hx hb dX0_weighHalf_9 (by decide) ?_
    refine lv_icmp_ge (tgt := 101) hx hb dX0_weighHalf_11 (by decide) (fun c_11 => ?_) (fun c_11 => ?_)
    · exact mu_retv hx hb hr hlocks hP hD hS dX0_weighHalf_101
    · exact absurd (nI_le (Nat.le_refl _) (by omega)) c_11
  · intro i hlti ihi H locs ls hI
    obtain ⟨hP, hD, hS, hl⟩ := hI
    have h2i : 2 ^ i ≤ 2 ^ 5 := Nat.pow_le_pow_right (by omega) (by omega)
    refine lv_iload_n hx hb dX0_weighHalf_8 rfl (lv_at hl 3 rfl) ?_
    refine lv_bipush (v := nI 6) hx hb dX0_weighHalf_9 (by decide) ?_
    refine lv_icmp_ge (tgt := 101) hx hb dX0_weighHalf_11 (by decide) (fun c_11 => ?_) (fun c_11 => ?_)
    · exact absurd c_11 (nI_ge hlti (by omega))
    · refine lv_aload_n hx hb dX0_weighHalf_14 rfl (lv_at hl 0 rfl) ?_
      refine va_get (D := D) (ci := 0) (v := .ref a1) (C := RX0) (T := TX0) (N := 8) hx hb hts hin hown hK hP 0 rfl rfl 0 (by decide) (hts (.fieldLink RX0 9 "OddsSampling" "ups" "[J") (by decide +kernel)) (fun _ h9 => h9) rfl dX0_weighHalf_15 ?_
      refine lv_iload_n hx hb dX0_weighHalf_18 rfl (lv_at hl 2 rfl) ?_
      refine lv_iload_n hx hb dX0_weighHalf_19 rfl (lv_at hl 3 rfl) ?_
      refine lv_iadd hx hb dX0_weighHalf_20 ?_
      refine ro_calll (va_runS (As := [.ref a1, .int (fs + (nI i))]) (rest := []) ⟨hx, hb, hml, hown, hts⟩ (kX0_at l D cJ a1 12 u (fs + (nI i)) (by omega)) (va_cwS 2 hts gX0_weighHalf_X0_at rfl rfl rfl ok_X0_at ⟨Nat.le_of_ble_eq_true rfl, Nat.le_of_ble_eq_true rfl⟩) ⟨oo_blind, oo_ps hP hK [1] rfl [0] rfl⟩ rfl rfl hl.1 rfl (lv_room (Nat.le_of_ble_eq_true rfl)) dX0_weighHalf_21 ⟨Nat.le_of_ble_eq_true rfl, Nat.le_of_ble_eq_true rfl⟩) hP hS (fun H locs hP hS => ?_)
      refine lv_lstore (lv' := [(4, .long (kvX0_at 12 u (fs + (nI i)))), (0, .ref h), (1, .ref aw), (2, .int fs), (3, .int (nI i))]) hx hb dX0_weighHalf_24 hl (by decide) rfl (fun ls hl => ?_)
      refine lv_aload_n hx hb dX0_weighHalf_26 rfl (lv_at hl 1 rfl) ?_
      refine va_get (D := D) (ci := 0) (v := .ref a2) (C := RX0) (T := TX0) (N := 8) hx hb hts hin hown hK hP 0 rfl rfl 1 (by decide) (hts (.fieldLink RX0 13 "OddsSampling" "downs" "[J") (by decide +kernel)) (fun _ h9 => h9) rfl dX0_weighHalf_27 ?_
      refine lv_iload_n hx hb dX0_weighHalf_30 rfl (lv_at hl 3 rfl) ?_
      refine lv_iload_n hx hb dX0_weighHalf_31 rfl (lv_at hl 4 rfl) ?_
      refine lv_iadd hx hb dX0_weighHalf_32 ?_
      refine ro_calll (va_runS (As := [.ref a2, .int (fs + (nI i))]) (rest := []) ⟨hx, hb, hml, hown, hts⟩ (kX0_at l D cJ a2 12 d (fs + (nI i)) (by omega)) (va_cwS 2 hts gX0_weighHalf_X0_at rfl rfl rfl ok_X0_at ⟨Nat.le_of_ble_eq_true rfl, Nat.le_of_ble_eq_true rfl⟩) ⟨oo_blind, oo_ps hP hK [2] rfl [0] rfl⟩ rfl rfl hl.1 rfl (lv_room (Nat.le_of_ble_eq_true rfl)) dX0_weighHalf_33 ⟨Nat.le_of_ble_eq_true rfl, Nat.le_of_ble_eq_true rfl⟩) hP hS (fun H locs hP hS => ?_)
      refine lv_lload hx hb dX0_weighHalf_36 (lv_at hl 0 rfl) ?_
      refine lv_lsub hx hb dX0_weighHalf_38 ?_
      refine lv_lstore (lv' := [(6, .long ((kvX0_at 12 d (fs + (nI i))) - (kvX0_at 12 u (fs + (nI i))))), (4, .long (kvX0_at 12 u (fs + (nI i)))), (0, .ref h), (1, .ref aw), (2, .int fs), (3, .int (nI i))]) hx hb dX0_weighHalf_39 hl (by decide) rfl (fun ls hl => ?_)
      refine lv_iconst (v := (1 : Int32)) hx hb dX0_weighHalf_41 (by decide) ?_
      refine lv_iload_n hx hb dX0_weighHalf_42 rfl (lv_at hl 5 rfl) ?_
      refine lv_ishl hx hb dX0_weighHalf_43 ?_
      refine oo_topI (y := nI (2 ^ i)) (oo_shl1 i (by omega)) ?_
      refine lv_istore (lv' := [(8, .int (nI (2 ^ i))), (6, .long ((kvX0_at 12 d (fs + (nI i))) - (kvX0_at 12 u (fs + (nI i))))), (4, .long (kvX0_at 12 u (fs + (nI i)))), (0, .ref h), (1, .ref aw), (2, .int fs), (3, .int (nI i))]) hx hb dX0_weighHalf_44 hl (by decide) rfl (fun ls hl => ?_)
      refine lv_iconst (v := nI 0) hx hb dX0_weighHalf_46 (by decide) ?_
      refine lv_istore (lv' := [(9, .int (nI 0)), (8, .int (nI (2 ^ i))), (6, .long ((kvX0_at 12 d (fs + (nI i))) - (kvX0_at 12 u (fs + (nI i))))), (4, .long (kvX0_at 12 u (fs + (nI i)))), (0, .ref h), (1, .ref aw), (2, .int fs), (3, .int (nI i))]) hx hb dX0_weighHalf_47 hl (by decide) rfl (fun ls hl => ?_)
      have hl : lv_has ls 12 [(0, .ref h), (1, .ref aw), (2, .int fs), (3, .int (nI i)), (4, .long (kvX0_at 12 u (fs + (nI i)))), (6, .long ((kvX0_at 12 d (fs + (nI i))) - (kvX0_at 12 u (fs + (nI i))))), (8, .int (nI (2 ^ i))), (9, .int (nI 0))] := lv_sub hl [4, 5, 6, 7, 3, 2, 1, 0] rfl
      have hP := Eq.mp (congrArg (fun z9 => va_P D vwCl ([(h, .inr (0, [.ref a1, .ref a2, .ref a3, .ref a4, .ref a5, .int (nI fn), .int (nI qn), .long sd])), (a1, .inl (cJ, 12, .inr (.inl u))), (a2, .inl (cJ, 12, .inr (.inl d))), (aw, .inl (cJ, 64, .inr (.inl z9)))]) H) (show kl_whO u d fs w i = kl_whI (kvX0_at 12 u (fs + (nI i))) ((kvX0_at 12 d (fs + (nI i))) - (kvX0_at 12 u (fs + (nI i)))) (2 ^ i) (kl_whO u d fs w i) 0 from (by first | rfl | (simp only [kl_whI]; done)))) hP
      have hP : va_P D vwCl ([(h, .inr (0, [.ref a1, .ref a2, .ref a3, .ref a4, .ref a5, .int (nI fn), .int (nI qn), .long sd])), (a1, .inl (cJ, 12, .inr (.inl u))), (a2, .inl (cJ, 12, .inr (.inl d))), (aw, .inl (cJ, 64, .inr (.inl (kl_whI (kvX0_at 12 u (fs + (nI i))) ((kvX0_at 12 d (fs + (nI i))) - (kvX0_at 12 u (fs + (nI i)))) (2 ^ i) (kl_whO u d fs w i) 0))))]) H := hP
      have hD : va_D _ ([(h, .inr (0, [.ref a1, .ref a2, .ref a3, .ref a4, .ref a5, .int (nI fn), .int (nI qn), .long sd])), (a1, .inl (cJ, 12, .inr (.inl u))), (a2, .inl (cJ, 12, .inr (.inl d))), (aw, .inl (cJ, 64, .inr (.inl (kl_whI (kvX0_at 12 u (fs + (nI i))) ((kvX0_at 12 d (fs + (nI i))) - (kvX0_at 12 u (fs + (nI i)))) (2 ^ i) (kl_whO u d fs w i) 0))))]) := oo_Dre hD rfl
      refine oo_loop (N := (2 ^ i)) (fun n H locs ls => va_P D vwCl ([(h, .inr (0, [.ref a1, .ref a2, .ref a3, .ref a4, .ref a5, .int (nI fn), .int (nI qn), .long sd])), (a1, .inl (cJ, 12, .inr (.inl u))), (a2, .inl (cJ, 12, .inr (.inl d))), (aw, .inl (cJ, 64, .inr (.inl (kl_whI (kvX0_at 12 u (fs + (nI i))) ((kvX0_at 12 d (fs + (nI i))) - (kvX0_at 12 u (fs + (nI i)))) (2 ^ i) (kl_whO u d fs w i) n))))]) H ∧ va_D (va_A ([(h, .inr (0, [.ref a1, .ref a2, .ref a3, .ref a4, .ref a5, .int (nI fn), .int (nI qn), .long sd])), (a1, .inl (cJ, 12, .inr (.inl u))), (a2, .inl (cJ, 12, .inr (.inl d))), (aw, .inl (cJ, 64, .inr (.inl w)))]) s.heap.size) ([(h, .inr (0, [.ref a1, .ref a2, .ref a3, .ref a4, .ref a5, .int (nI fn), .int (nI qn), .long sd])), (a1, .inl (cJ, 12, .inr (.inl u))), (a2, .inl (cJ, 12, .inr (.inl d))), (aw, .inl (cJ, 64, .inr (.inl (kl_whI (kvX0_at 12 u (fs + (nI i))) ((kvX0_at 12 d (fs + (nI i))) - (kvX0_at 12 u (fs + (nI i)))) (2 ^ i) (kl_whO u d fs w i) n))))]) ∧ va_S (va_A ([(h, .inr (0, [.ref a1, .ref a2, .ref a3, .ref a4, .ref a5, .int (nI fn), .int (nI qn), .long sd])), (a1, .inl (cJ, 12, .inr (.inl u))), (a2, .inl (cJ, 12, .inr (.inl d))), (aw, .inl (cJ, 64, .inr (.inl w)))]) s.heap.size) s.heap H locs ∧ lv_has ls 12 [(0, .ref h), (1, .ref aw), (2, .int fs), (3, .int (nI i)), (4, .long (kvX0_at 12 u (fs + (nI i)))), (6, .long ((kvX0_at 12 d (fs + (nI i))) - (kvX0_at 12 u (fs + (nI i))))), (8, .int (nI (2 ^ i))), (9, .int (nI n))]) ?_ ?_ 0 (Nat.zero_le _) ⟨hP, hD, hS, hl⟩
      · intro H locs ls hI
        obtain ⟨hP, hD, hS, hl⟩ := hI
        refine lv_iload hx hb dX0_weighHalf_49 (lv_at hl 7 rfl) ?_
        refine lv_iload hx hb dX0_weighHalf_51 (lv_at hl 6 rfl) ?_
        refine lv_icmp_ge (tgt := 95) hx hb dX0_weighHalf_53 (by decide) (fun c_53 => ?_) (fun c_53 => ?_)
        · refine lv_iinc (v := nI (i + 1)) (lv' := [(3, .int (nI (i + 1))), (0, .ref h), (1, .ref aw), (2, .int fs), (4, .long (kvX0_at 12 u (fs + (nI i)))), (6, .long ((kvX0_at 12 d (fs + (nI i))) - (kvX0_at 12 u (fs + (nI i))))), (8, .int (nI (2 ^ i))), (9, .int (nI (2 ^ i)))]) hx hb dX0_weighHalf_95 hl (k := 3) rfl (oo_inc i 1) (by decide) rfl (fun ls hl => ?_)
          refine lv_goto (tgt := 8) hx hb dX0_weighHalf_98 (by decide) ?_
          have hl : lv_has ls 12 [(0, .ref h), (1, .ref aw), (2, .int fs), (3, .int (nI (i + 1)))] := lv_sub hl [1, 2, 3, 0] rfl
          have hP := Eq.mp (congrArg (fun z9 => va_P D vwCl ([(h, .inr (0, [.ref a1, .ref a2, .ref a3, .ref a4, .ref a5, .int (nI fn), .int (nI qn), .long sd])), (a1, .inl (cJ, 12, .inr (.inl u))), (a2, .inl (cJ, 12, .inr (.inl d))), (aw, .inl (cJ, 64, .inr (.inl z9)))]) H) (show kl_whI (kvX0_at 12 u (fs + (nI i))) ((kvX0_at 12 d (fs + (nI i))) - (kvX0_at 12 u (fs + (nI i)))) (2 ^ i) (kl_whO u d fs w i) (2 ^ i) = kl_whO u d fs w (i + 1) from (by first | rfl | (simp only [kl_whO]; done)))) hP
          have hP : va_P D vwCl ([(h, .inr (0, [.ref a1, .ref a2, .ref a3, .ref a4, .ref a5, .int (nI fn), .int (nI qn), .long sd])), (a1, .inl (cJ, 12, .inr (.inl u))), (a2, .inl (cJ, 12, .inr (.inl d))), (aw, .inl (cJ, 64, .inr (.inl (kl_whO u d fs w (i + 1)))))]) H := hP
          have hD : va_D _ ([(h, .inr (0, [.ref a1, .ref a2, .ref a3, .ref a4, .ref a5, .int (nI fn), .int (nI qn), .long sd])), (a1, .inl (cJ, 12, .inr (.inl u))), (a2, .inl (cJ, 12, .inr (.inl d))), (aw, .inl (cJ, 64, .inr (.inl (kl_whO u d fs w (i + 1)))))]) := oo_Dre hD rfl
          exact ihi _ _ _ ⟨hP, hD, hS, hl⟩
        · exact absurd (nI_le (Nat.le_refl _) (by omega)) c_53
      · intro n hltn ihn H locs ls hI
        obtain ⟨hP, hD, hS, hl⟩ := hI
        refine lv_iload hx hb dX0_weighHalf_49 (lv_at hl 7 rfl) ?_
        refine lv_iload hx hb dX0_weighHalf_51 (lv_at hl 6 rfl) ?_
        refine lv_icmp_ge (tgt := 95) hx hb dX0_weighHalf_53 (by decide) (fun c_53 => ?_) (fun c_53 => ?_)
        · exact absurd c_53 (nI_ge hltn (by omega))
        · refine lv_aload_n hx hb dX0_weighHalf_56 rfl (lv_at hl 1 rfl) ?_
          refine lv_iload hx hb dX0_weighHalf_57 (lv_at hl 7 rfl) ?_
          refine ro_calll (va_runS (As := [.ref aw, .int (nI n)]) (rest := []) ⟨hx, hb, hml, hown, hts⟩ (kX0_at l D cJ aw 64 (kl_whI (kvX0_at 12 u (fs + (nI i))) ((kvX0_at 12 d (fs + (nI i))) - (kvX0_at 12 u (fs + (nI i)))) (2 ^ i) (kl_whO u d fs w i) n) (nI n) (by omega)) (va_cwS 2 hts gX0_weighHalf_X0_at rfl rfl rfl ok_X0_at ⟨Nat.le_of_ble_eq_true rfl, Nat.le_of_ble_eq_true rfl⟩) ⟨oo_blind, oo_ps hP hK [3] rfl [0] rfl⟩ rfl rfl hl.1 rfl (lv_room (Nat.le_of_ble_eq_true rfl)) dX0_weighHalf_59 ⟨Nat.le_of_ble_eq_true rfl, Nat.le_of_ble_eq_true rfl⟩) hP hS (fun H locs hP hS => ?_)
          refine lv_lstore (lv' := [(10, .long (kvX0_at 64 (kl_whI (kvX0_at 12 u (fs + (nI i))) ((kvX0_at 12 d (fs + (nI i))) - (kvX0_at 12 u (fs + (nI i)))) (2 ^ i) (kl_whO u d fs w i) n) (nI n))), (0, .ref h), (1, .ref aw), (2, .int fs), (3, .int (nI i)), (4, .long (kvX0_at 12 u (fs + (nI i)))), (6, .long ((kvX0_at 12 d (fs + (nI i))) - (kvX0_at 12 u (fs + (nI i))))), (8, .int (nI (2 ^ i))), (9, .int (nI n))]) hx hb dX0_weighHalf_62 hl (by decide) rfl (fun ls hl => ?_)
          refine lv_aload_n hx hb dX0_weighHalf_64 rfl (lv_at hl 2 rfl) ?_
          refine lv_iload hx hb dX0_weighHalf_65 (lv_at hl 8 rfl) ?_
          refine lv_lload hx hb dX0_weighHalf_67 (lv_at hl 0 rfl) ?_
          refine lv_lload hx hb dX0_weighHalf_69 (lv_at hl 6 rfl) ?_
          refine lv_lmul hx hb dX0_weighHalf_71 ?_
          refine mu_callv (va_runS (As := [.ref aw, .int (nI n), .long ((kvX0_at 64 (kl_whI (kvX0_at 12 u (fs + (nI i))) ((kvX0_at 12 d (fs + (nI i))) - (kvX0_at 12 u (fs + (nI i)))) (2 ^ i) (kl_whO u d fs w i) n) (nI n)) * ((kvX0_at 12 d (fs + (nI i))) - (kvX0_at 12 u (fs + (nI i)))))]) (rest := []) ⟨hx, hb, hml, hown, hts⟩ (kX0_put l D cJ aw 64 (kl_whI (kvX0_at 12 u (fs + (nI i))) ((kvX0_at 12 d (fs + (nI i))) - (kvX0_at 12 u (fs + (nI i)))) (2 ^ i) (kl_whO u d fs w i) n) (nI n) ((kvX0_at 64 (kl_whI (kvX0_at 12 u (fs + (nI i))) ((kvX0_at 12 d (fs + (nI i))) - (kvX0_at 12 u (fs + (nI i)))) (2 ^ i) (kl_whO u d fs w i) n) (nI n)) * ((kvX0_at 12 d (fs + (nI i))) - (kvX0_at 12 u (fs + (nI i))))) (by omega) _) (va_cwS 3 hts gX0_weighHalf_X0_put rfl rfl rfl ok_X0_put ⟨Nat.le_of_ble_eq_true rfl, Nat.le_of_ble_eq_true rfl⟩) ⟨oo_blindM, oo_psM hP hD hK [3] rfl rfl [0] rfl⟩ rfl rfl hl.1 rfl (lv_room (Nat.le_of_ble_eq_true rfl)) dX0_weighHalf_72 ⟨Nat.le_of_ble_eq_true rfl, Nat.le_of_ble_eq_true rfl⟩) hP hD hS hA [3] rfl rfl (fun H locs hP hD hS => ?_)
          have hP : va_P D vwCl ([(h, .inr (0, [.ref a1, .ref a2, .ref a3, .ref a4, .ref a5, .int (nI fn), .int (nI qn), .long sd])), (a1, .inl (cJ, 12, .inr (.inl u))), (a2, .inl (cJ, 12, .inr (.inl d))), (aw, .inl (cJ, 64, .inr (.inl (kvX0_put_c0 64 (kl_whI (kvX0_at 12 u (fs + (nI i))) ((kvX0_at 12 d (fs + (nI i))) - (kvX0_at 12 u (fs + (nI i)))) (2 ^ i) (kl_whO u d fs w i) n) (nI n) ((kvX0_at 64 (kl_whI (kvX0_at 12 u (fs + (nI i))) ((kvX0_at 12 d (fs + (nI i))) - (kvX0_at 12 u (fs + (nI i)))) (2 ^ i) (kl_whO u d fs w i) n) (nI n)) * ((kvX0_at 12 d (fs + (nI i))) - (kvX0_at 12 u (fs + (nI i)))))))))]) H := hP
          have hD : va_D _ ([(h, .inr (0, [.ref a1, .ref a2, .ref a3, .ref a4, .ref a5, .int (nI fn), .int (nI qn), .long sd])), (a1, .inl (cJ, 12, .inr (.inl u))), (a2, .inl (cJ, 12, .inr (.inl d))), (aw, .inl (cJ, 64, .inr (.inl (kvX0_put_c0 64 (kl_whI (kvX0_at 12 u (fs + (nI i))) ((kvX0_at 12 d (fs + (nI i))) - (kvX0_at 12 u (fs + (nI i)))) (2 ^ i) (kl_whO u d fs w i) n) (nI n) ((kvX0_at 64 (kl_whI (kvX0_at 12 u (fs + (nI i))) ((kvX0_at 12 d (fs + (nI i))) - (kvX0_at 12 u (fs + (nI i)))) (2 ^ i) (kl_whO u d fs w i) n) (nI n)) * ((kvX0_at 12 d (fs + (nI i))) - (kvX0_at 12 u (fs + (nI i)))))))))]) := hD
          refine lv_aload_n hx hb dX0_weighHalf_75 rfl (lv_at hl 2 rfl) ?_
          refine lv_iload hx hb dX0_weighHalf_76 (lv_at hl 8 rfl) ?_
          refine lv_iload hx hb dX0_weighHalf_78 (lv_at hl 7 rfl) ?_
          refine lv_iadd hx hb dX0_weighHalf_80 ?_
          refine lv_lload hx hb dX0_weighHalf_81 (lv_at hl 0 rfl) ?_
          refine lv_lload hx hb dX0_weighHalf_83 (lv_at hl 5 rfl) ?_
          refine lv_lmul hx hb dX0_weighHalf_85 ?_
          refine mu_callv (va_runS (As := [.ref aw, .int ((nI n) + (nI (2 ^ i))), .long ((kvX0_at 64 (kl_whI (kvX0_at 12 u (fs + (nI i))) ((kvX0_at 12 d (fs + (nI i))) - (kvX0_at 12 u (fs + (nI i)))) (2 ^ i) (kl_whO u d fs w i) n) (nI n)) * (kvX0_at 12 u (fs + (nI i))))]) (rest := []) ⟨hx, hb, hml, hown, hts⟩ (kX0_put l D cJ aw 64 (kvX0_put_c0 64 (kl_whI (kvX0_at 12 u (fs + (nI i))) ((kvX0_at 12 d (fs + (nI i))) - (kvX0_at 12 u (fs + (nI i)))) (2 ^ i) (kl_whO u d fs w i) n) (nI n) ((kvX0_at 64 (kl_whI (kvX0_at 12 u (fs + (nI i))) ((kvX0_at 12 d (fs + (nI i))) - (kvX0_at 12 u (fs + (nI i)))) (2 ^ i) (kl_whO u d fs w i) n) (nI n)) * ((kvX0_at 12 d (fs + (nI i))) - (kvX0_at 12 u (fs + (nI i)))))) ((nI n) + (nI (2 ^ i))) ((kvX0_at 64 (kl_whI (kvX0_at 12 u (fs + (nI i))) ((kvX0_at 12 d (fs + (nI i))) - (kvX0_at 12 u (fs + (nI i)))) (2 ^ i) (kl_whO u d fs w i) n) (nI n)) * (kvX0_at 12 u (fs + (nI i)))) (by omega) _) (va_cwS 3 hts gX0_weighHalf_X0_put rfl rfl rfl ok_X0_put ⟨Nat.le_of_ble_eq_true rfl, Nat.le_of_ble_eq_true rfl⟩) ⟨oo_blindM, oo_psM hP hD hK [3] rfl rfl [0] rfl⟩ rfl rfl hl.1 rfl (lv_room (Nat.le_of_ble_eq_true rfl)) dX0_weighHalf_86 ⟨Nat.le_of_ble_eq_true rfl, Nat.le_of_ble_eq_true rfl⟩) hP hD hS hA [3] rfl rfl (fun H locs hP hD hS => ?_)
          have hP : va_P D vwCl ([(h, .inr (0, [.ref a1, .ref a2, .ref a3, .ref a4, .ref a5, .int (nI fn), .int (nI qn), .long sd])), (a1, .inl (cJ, 12, .inr (.inl u))), (a2, .inl (cJ, 12, .inr (.inl d))), (aw, .inl (cJ, 64, .inr (.inl (kvX0_put_c0 64 (kvX0_put_c0 64 (kl_whI (kvX0_at 12 u (fs + (nI i))) ((kvX0_at 12 d (fs + (nI i))) - (kvX0_at 12 u (fs + (nI i)))) (2 ^ i) (kl_whO u d fs w i) n) (nI n) ((kvX0_at 64 (kl_whI (kvX0_at 12 u (fs + (nI i))) ((kvX0_at 12 d (fs + (nI i))) - (kvX0_at 12 u (fs + (nI i)))) (2 ^ i) (kl_whO u d fs w i) n) (nI n)) * ((kvX0_at 12 d (fs + (nI i))) - (kvX0_at 12 u (fs + (nI i)))))) ((nI n) + (nI (2 ^ i))) ((kvX0_at 64 (kl_whI (kvX0_at 12 u (fs + (nI i))) ((kvX0_at 12 d (fs + (nI i))) - (kvX0_at 12 u (fs + (nI i)))) (2 ^ i) (kl_whO u d fs w i) n) (nI n)) * (kvX0_at 12 u (fs + (nI i))))))))]) H := hP
          have hD : va_D _ ([(h, .inr (0, [.ref a1, .ref a2, .ref a3, .ref a4, .ref a5, .int (nI fn), .int (nI qn), .long sd])), (a1, .inl (cJ, 12, .inr (.inl u))), (a2, .inl (cJ, 12, .inr (.inl d))), (aw, .inl (cJ, 64, .inr (.inl (kvX0_put_c0 64 (kvX0_put_c0 64 (kl_whI (kvX0_at 12 u (fs + (nI i))) ((kvX0_at 12 d (fs + (nI i))) - (kvX0_at 12 u (fs + (nI i)))) (2 ^ i) (kl_whO u d fs w i) n) (nI n) ((kvX0_at 64 (kl_whI (kvX0_at 12 u (fs + (nI i))) ((kvX0_at 12 d (fs + (nI i))) - (kvX0_at 12 u (fs + (nI i)))) (2 ^ i) (kl_whO u d fs w i) n) (nI n)) * ((kvX0_at 12 d (fs + (nI i))) - (kvX0_at 12 u (fs + (nI i)))))) ((nI n) + (nI (2 ^ i))) ((kvX0_at 64 (kl_whI (kvX0_at 12 u (fs + (nI i))) ((kvX0_at 12 d (fs + (nI i))) - (kvX0_at 12 u (fs + (nI i)))) (2 ^ i) (kl_whO u d fs w i) n) (nI n)) * (kvX0_at 12 u (fs + (nI i))))))))]) := hD
          refine lv_iinc (v := nI (n + 1)) (lv' := [(9, .int (nI (n + 1))), (10, .long (kvX0_at 64 (kl_whI (kvX0_at 12 u (fs + (nI i))) ((kvX0_at 12 d (fs + (nI i))) - (kvX0_at 12 u (fs + (nI i)))) (2 ^ i) (kl_whO u d fs w i) n) (nI n))), (0, .ref h), (1, .ref aw), (2, .int fs), (3, .int (nI i)), (4, .long (kvX0_at 12 u (fs + (nI i)))), (6, .long ((kvX0_at 12 d (fs + (nI i))) - (kvX0_at 12 u (fs + (nI i))))), (8, .int (nI (2 ^ i)))]) hx hb dX0_weighHalf_89 hl (k := 8) rfl (oo_inc n 1) (by decide) rfl (fun ls hl => ?_)
          refine lv_goto (tgt := 49) hx hb dX0_weighHalf_92 (by decide) ?_
          have hl : lv_has ls 12 [(0, .ref h), (1, .ref aw), (2, .int fs), (3, .int (nI i)), (4, .long (kvX0_at 12 u (fs + (nI i)))), (6, .long ((kvX0_at 12 d (fs + (nI i))) - (kvX0_at 12 u (fs + (nI i))))), (8, .int (nI (2 ^ i))), (9, .int (nI (n + 1)))] := lv_sub hl [2, 3, 4, 5, 6, 7, 8, 0] rfl
          have hP := Eq.mp (congrArg (fun z9 => va_P D vwCl ([(h, .inr (0, [.ref a1, .ref a2, .ref a3, .ref a4, .ref a5, .int (nI fn), .int (nI qn), .long sd])), (a1, .inl (cJ, 12, .inr (.inl u))), (a2, .inl (cJ, 12, .inr (.inl d))), (aw, .inl (cJ, 64, .inr (.inl z9)))]) H) (show kvX0_put_c0 64 (kvX0_put_c0 64 (kl_whI (kvX0_at 12 u (fs + (nI i))) ((kvX0_at 12 d (fs + (nI i))) - (kvX0_at 12 u (fs + (nI i)))) (2 ^ i) (kl_whO u d fs w i) n) (nI n) ((kvX0_at 64 (kl_whI (kvX0_at 12 u (fs + (nI i))) ((kvX0_at 12 d (fs + (nI i))) - (kvX0_at 12 u (fs + (nI i)))) (2 ^ i) (kl_whO u d fs w i) n) (nI n)) * ((kvX0_at 12 d (fs + (nI i))) - (kvX0_at 12 u (fs + (nI i)))))) ((nI n) + (nI (2 ^ i))) ((kvX0_at 64 (kl_whI (kvX0_at 12 u (fs + (nI i))) ((kvX0_at 12 d (fs + (nI i))) - (kvX0_at 12 u (fs + (nI i)))) (2 ^ i) (kl_whO u d fs w i) n) (nI n)) * (kvX0_at 12 u (fs + (nI i)))) = kl_whI (kvX0_at 12 u (fs + (nI i))) ((kvX0_at 12 d (fs + (nI i))) - (kvX0_at 12 u (fs + (nI i)))) (2 ^ i) (kl_whO u d fs w i) (n + 1) from (by first | rfl | (simp only [kl_whI]; done)))) hP
          have hP : va_P D vwCl ([(h, .inr (0, [.ref a1, .ref a2, .ref a3, .ref a4, .ref a5, .int (nI fn), .int (nI qn), .long sd])), (a1, .inl (cJ, 12, .inr (.inl u))), (a2, .inl (cJ, 12, .inr (.inl d))), (aw, .inl (cJ, 64, .inr (.inl (kl_whI (kvX0_at 12 u (fs + (nI i))) ((kvX0_at 12 d (fs + (nI i))) - (kvX0_at 12 u (fs + (nI i)))) (2 ^ i) (kl_whO u d fs w i) (n + 1)))))]) H := hP
          have hD : va_D _ ([(h, .inr (0, [.ref a1, .ref a2, .ref a3, .ref a4, .ref a5, .int (nI fn), .int (nI qn), .long sd])), (a1, .inl (cJ, 12, .inr (.inl u))), (a2, .inl (cJ, 12, .inr (.inl d))), (aw, .inl (cJ, 64, .inr (.inl (kl_whI (kvX0_at 12 u (fs + (nI i))) ((kvX0_at 12 d (fs + (nI i))) - (kvX0_at 12 u (fs + (nI i)))) (2 ^ i) (kl_whO u d fs w i) (n + 1)))))]) := oo_Dre hD rfl
          exact ihn _ _ _ ⟨hP, hD, hS, hl⟩
theorem ok_X0_weigh : yX0_weigh.cls = RX0 ∧ yX0_weigh.cls ≠ "java/lang/invoke/MethodHandle" ∧ yX0_weigh.cls ≠ "java/lang/invoke/VarHandle" ∧ (parseMethodDescriptor yX0_weigh.desc).map (fun d => d.parameters.length) = some 0 := by decide +kernel
set_option maxHeartbeats 4000000 in
set_option maxRecDepth 100000 in
theorem kX0_weigh (l : Launch) (D : va_G) (cJ : ClassId) (h a1 a2 a3 a4 a5 : Nat) (u d lw uw an : Nat → Int64) (fn qn : Nat) (sd : Int64)  : MuV l yX0_weigh wsX0_weigh ({ frames := 2, cells := 0, slots := 0, locals := 54 } : Room) [.ref h] D (xW cJ h a1 a2 a3 a4 a5 u d lw uw an (nI fn) (nI qn) sd) [(cJ, .long)] (xW cJ h a1 a2 a3 a4 a5 u d (kl_whO u d (0 : Int32) lw 6) (kl_whO u d (nI 6) uw 6) an (nI fn) (nI qn) sd) := by
  intro sz
  refine oo_head (C := RX0) (cc := cX0_weigh) (maxL := 1) (ret := none) (by decide) rfl rfl (Nat.le_of_ble_eq_true rfl) ?_
  intro p e s m below meth c hx hb hr hlocks hml hown hnm hts hpre ls hl
  have hl : lv_has ls 1 [(0, .ref h)] := hl
  obtain ⟨rfl, hP, hK, hD0⟩ := hpre
  have hD := hD0.self (sz := s.heap.size)
  have hA := oo_A (xW cJ h a1 a2 a3 a4 a5 u d lw uw an (nI fn) (nI qn) sd) s
  have hS : va_S (va_A (xW cJ h a1 a2 a3 a4 a5 u d lw uw an (nI fn) (nI qn) sd) s.heap.size) s.heap s.heap [] := va_S.rf
  have hin : ∀ w ∈ wsX00, w ∈ wsX0_weigh := fun w h => List.mem_cons_of_mem _ (List.mem_append_right _ h)
  refine lv_aload_n hx hb dX0_weigh_0 rfl (lv_at hl 0 rfl) ?_
  refine lv_aload_n hx hb dX0_weigh_1 rfl (lv_at hl 0 rfl) ?_
  refine va_get (D := D) (ci := 0) (v := .ref a3) (C := RX0) (T := TX0) (N := 8) hx hb hts hin hown hK hP 0 rfl rfl 2 (by decide) (hts (.fieldLink RX0 16 "OddsSampling" "lowerWeights" "[J") (by decide +kernel)) (fun _ h9 => h9) rfl dX0_weigh_2 ?_
  refine lv_iconst (v := (0 : Int32)) hx hb dX0_weigh_5 (by decide) ?_
  refine mu_callv (va_runV (As := [.ref a3, .int (0 : Int32)]) (rest := []) ⟨hx, hb, hml, hown, hts⟩ (kX0_weighHalf l D cJ h a1 a2 a3 a4 a5 a3 u d lw fn qn sd (0 : Int32) _) (cwV 2 hts gX0_weigh_X0_weighHalf rfl rfl rfl ok_X0_weighHalf ⟨Nat.le_of_ble_eq_true rfl, Nat.le_of_ble_eq_true rfl⟩) ⟨oo_blindM, va_recv hK hP (ci := 0) (q0 := 0) rfl rfl, oo_psM hP hD hK [0, 1, 2, 3] rfl rfl [0] rfl⟩ rfl rfl hl.1 rfl (lv_room (Nat.le_of_ble_eq_true rfl)) dX0_weigh_6 ⟨Nat.le_of_ble_eq_true rfl, Nat.le_of_ble_eq_true rfl⟩) hP hD hS hA [0, 1, 2, 3] rfl rfl (fun H locs hP hD hS => ?_)
  have hP : va_P D vwCl (xW cJ h a1 a2 a3 a4 a5 u d (kl_whO u d (0 : Int32) lw 6) uw an (nI fn) (nI qn) sd) H := hP
  have hD : va_D _ (xW cJ h a1 a2 a3 a4 a5 u d (kl_whO u d (0 : Int32) lw 6) uw an (nI fn) (nI qn) sd) := hD
  refine lv_aload_n hx hb dX0_weigh_9 rfl (lv_at hl 0 rfl) ?_
  refine lv_aload_n hx hb dX0_weigh_10 rfl (lv_at hl 0 rfl) ?_
  refine va_get (D := D) (ci := 0) (v := .ref a4) (C := RX0) (T := TX0) (N := 8) hx hb hts hin hown hK hP 0 rfl rfl 3 (by decide) (hts (.fieldLink RX0 19 "OddsSampling" "upperWeights" "[J") (by decide +kernel)) (fun _ h9 => h9) rfl dX0_weigh_11 ?_
  refine lv_bipush (v := nI 6) hx hb dX0_weigh_14 (by decide) ?_
  refine mu_callv (va_runV (As := [.ref a4, .int (nI 6)]) (rest := []) ⟨hx, hb, hml, hown, hts⟩ (kX0_weighHalf l D cJ h a1 a2 a3 a4 a5 a4 u d uw fn qn sd (nI 6) _) (cwV 2 hts gX0_weigh_X0_weighHalf rfl rfl rfl ok_X0_weighHalf ⟨Nat.le_of_ble_eq_true rfl, Nat.le_of_ble_eq_true rfl⟩) ⟨oo_blindM, va_recv hK hP (ci := 0) (q0 := 0) rfl rfl, oo_psM hP hD hK [0, 1, 2, 4] rfl rfl [0] rfl⟩ rfl rfl hl.1 rfl (lv_room (Nat.le_of_ble_eq_true rfl)) dX0_weigh_16 ⟨Nat.le_of_ble_eq_true rfl, Nat.le_of_ble_eq_true rfl⟩) hP hD hS hA [0, 1, 2, 4] rfl rfl (fun H locs hP hD hS => ?_)
  have hP : va_P D vwCl (xW cJ h a1 a2 a3 a4 a5 u d (kl_whO u d (0 : Int32) lw 6) (kl_whO u d (nI 6) uw 6) an (nI fn) (nI qn) sd) H := hP
  have hD : va_D _ (xW cJ h a1 a2 a3 a4 a5 u d (kl_whO u d (0 : Int32) lw 6) (kl_whO u d (nI 6) uw 6) an (nI fn) (nI qn) sd) := hD
  exact mu_retv hx hb hr hlocks hP hD hS dX0_weigh_19
theorem ok_X0_putOdds : yX0_putOdds.cls = RX0 ∧ yX0_putOdds.cls ≠ "java/lang/invoke/MethodHandle" ∧ yX0_putOdds.cls ≠ "java/lang/invoke/VarHandle" ∧ (parseMethodDescriptor yX0_putOdds.desc).map (fun d => d.parameters.length) = some 3 := by decide +kernel
set_option maxHeartbeats 4000000 in
set_option maxRecDepth 100000 in
theorem kX0_putOdds (l : Launch) (D : va_G) (cJ : ClassId) (h a1 a2 a3 a4 a5 : Nat) (u d lw uw an : Nat → Int64) (fn qn : Nat) (sd : Int64) (k : Int32) (up : Int64) (dn : Int64) : MuV l yX0_putOdds wsX0_putOdds ({ frames := 3, cells := 0, slots := 0, locals := 74 } : Room) [.ref h, .int k, .long up, .long dn] D (xW cJ h a1 a2 a3 a4 a5 u d lw uw an (nI fn) (nI qn) sd) [(cJ, .long)] (xW cJ h a1 a2 a3 a4 a5 (kvX0_put_c0 12 u k up) (kvX0_put_c0 12 d k dn) (kl_whO (kvX0_put_c0 12 u k up) (kvX0_put_c0 12 d k dn) (0 : Int32) lw 6) (kl_whO (kvX0_put_c0 12 u k up) (kvX0_put_c0 12 d k dn) (nI 6) uw 6) an (nI fn) (nI qn) sd) := by
  intro sz
  refine oo_head (C := RX0) (cc := cX0_putOdds) (maxL := 6) (ret := none) (by decide) rfl rfl (Nat.le_of_ble_eq_true rfl) ?_
  intro p e s m below meth c hx hb hr hlocks hml hown hnm hts hpre ls hl
  have hl : lv_has ls 6 [(0, .ref h), (1, .int k), (2, .long up), (4, .long dn)] := hl
  obtain ⟨rfl, hP, hK, hD0⟩ := hpre
  have hD := hD0.self (sz := s.heap.size)
  have hA := oo_A (xW cJ h a1 a2 a3 a4 a5 u d lw uw an (nI fn) (nI qn) sd) s
  have hS : va_S (va_A (xW cJ h a1 a2 a3 a4 a5 u d lw uw an (nI fn) (nI qn) sd) s.heap.size) s.heap s.heap [] := va_S.rf
  have hin : ∀ w ∈ wsX00, w ∈ wsX0_putOdds := fun w h => List.mem_cons_of_mem _ (List.mem_append_right _ h)
  refine lv_aload_n hx hb dX0_putOdds_0 rfl (lv_at hl 0 rfl) ?_
  refine va_get (D := D) (ci := 0) (v := .ref a1) (C := RX0) (T := TX0) (N := 8) hx hb hts hin hown hK hP 0 rfl rfl 0 (by decide) (hts (.fieldLink RX0 9 "OddsSampling" "ups" "[J") (by decide +kernel)) (fun _ h9 => h9) rfl dX0_putOdds_1 ?_
  refine lv_iload_n hx hb dX0_putOdds_4 rfl (lv_at hl 1 rfl) ?_
  refine lv_lload_n hx hb dX0_putOdds_5 rfl (lv_at hl 2 rfl) ?_
  refine mu_callv (va_runS (As := [.ref a1, .int k, .long up]) (rest := []) ⟨hx, hb, hml, hown, hts⟩ (kX0_put l D cJ a1 12 u k up (by omega) _) (va_cwS 3 hts gX0_putOdds_X0_put rfl rfl rfl ok_X0_put ⟨Nat.le_of_ble_eq_true rfl, Nat.le_of_ble_eq_true rfl⟩) ⟨oo_blindM, oo_psM hP hD hK [1] rfl rfl [0] rfl⟩ rfl rfl hl.1 rfl (lv_room (Nat.le_of_ble_eq_true rfl)) dX0_putOdds_6 ⟨Nat.le_of_ble_eq_true rfl, Nat.le_of_ble_eq_true rfl⟩) hP hD hS hA [1] rfl rfl (fun H locs hP hD hS => ?_)
  have hP : va_P D vwCl (xW cJ h a1 a2 a3 a4 a5 (kvX0_put_c0 12 u k up) d lw uw an (nI fn) (nI qn) sd) H := hP
  have hD : va_D _ (xW cJ h a1 a2 a3 a4 a5 (kvX0_put_c0 12 u k up) d lw uw an (nI fn) (nI qn) sd) := hD
  refine lv_aload_n hx hb dX0_putOdds_9 rfl (lv_at hl 0 rfl) ?_
  refine va_get (D := D) (ci := 0) (v := .ref a2) (C := RX0) (T := TX0) (N := 8) hx hb hts hin hown hK hP 0 rfl rfl 1 (by decide) (hts (.fieldLink RX0 13 "OddsSampling" "downs" "[J") (by decide +kernel)) (fun _ h9 => h9) rfl dX0_putOdds_10 ?_
  refine lv_iload_n hx hb dX0_putOdds_13 rfl (lv_at hl 1 rfl) ?_
  refine lv_lload hx hb dX0_putOdds_14 (lv_at hl 3 rfl) ?_
  refine mu_callv (va_runS (As := [.ref a2, .int k, .long dn]) (rest := []) ⟨hx, hb, hml, hown, hts⟩ (kX0_put l D cJ a2 12 d k dn (by omega) _) (va_cwS 3 hts gX0_putOdds_X0_put rfl rfl rfl ok_X0_put ⟨Nat.le_of_ble_eq_true rfl, Nat.le_of_ble_eq_true rfl⟩) ⟨oo_blindM, oo_psM hP hD hK [2] rfl rfl [0] rfl⟩ rfl rfl hl.1 rfl (lv_room (Nat.le_of_ble_eq_true rfl)) dX0_putOdds_16 ⟨Nat.le_of_ble_eq_true rfl, Nat.le_of_ble_eq_true rfl⟩) hP hD hS hA [2] rfl rfl (fun H locs hP hD hS => ?_)
  have hP : va_P D vwCl (xW cJ h a1 a2 a3 a4 a5 (kvX0_put_c0 12 u k up) (kvX0_put_c0 12 d k dn) lw uw an (nI fn) (nI qn) sd) H := hP
  have hD : va_D _ (xW cJ h a1 a2 a3 a4 a5 (kvX0_put_c0 12 u k up) (kvX0_put_c0 12 d k dn) lw uw an (nI fn) (nI qn) sd) := hD
  refine lv_aload_n hx hb dX0_putOdds_19 rfl (lv_at hl 0 rfl) ?_
  refine mu_callv (va_runV (As := []) (rest := []) ⟨hx, hb, hml, hown, hts⟩ (kX0_weigh l D cJ h a1 a2 a3 a4 a5 (kvX0_put_c0 12 u k up) (kvX0_put_c0 12 d k dn) lw uw an fn qn sd _) (cwV 0 hts gX0_putOdds_X0_weigh rfl rfl rfl ok_X0_weigh ⟨Nat.le_of_ble_eq_true rfl, Nat.le_of_ble_eq_true rfl⟩) ⟨oo_blindM, va_recv hK hP (ci := 0) (q0 := 0) rfl rfl, oo_psM hP hD hK [0, 1, 2, 3, 4, 5] rfl rfl [0] rfl⟩ rfl rfl hl.1 rfl (lv_room (Nat.le_of_ble_eq_true rfl)) dX0_putOdds_20 ⟨Nat.le_of_ble_eq_true rfl, Nat.le_of_ble_eq_true rfl⟩) hP hD hS hA [0, 1, 2, 3, 4, 5] rfl rfl (fun H locs hP hD hS => ?_)
  have hP : va_P D vwCl (xW cJ h a1 a2 a3 a4 a5 (kvX0_put_c0 12 u k up) (kvX0_put_c0 12 d k dn) (kl_whO (kvX0_put_c0 12 u k up) (kvX0_put_c0 12 d k dn) (0 : Int32) lw 6) (kl_whO (kvX0_put_c0 12 u k up) (kvX0_put_c0 12 d k dn) (nI 6) uw 6) an (nI fn) (nI qn) sd) H := hP
  have hD : va_D _ (xW cJ h a1 a2 a3 a4 a5 (kvX0_put_c0 12 u k up) (kvX0_put_c0 12 d k dn) (kl_whO (kvX0_put_c0 12 u k up) (kvX0_put_c0 12 d k dn) (0 : Int32) lw 6) (kl_whO (kvX0_put_c0 12 u k up) (kvX0_put_c0 12 d k dn) (nI 6) uw 6) an (nI fn) (nI qn) sd) := hD
  exact mu_retv hx hb hr hlocks hP hD hS dX0_putOdds_23
theorem ok_X0_sumWhenSurely : yX0_sumWhenSurely.cls = RX0 ∧ yX0_sumWhenSurely.cls ≠ "java/lang/invoke/MethodHandle" ∧ yX0_sumWhenSurely.cls ≠ "java/lang/invoke/VarHandle" ∧ (parseMethodDescriptor yX0_sumWhenSurely.desc).map (fun d => d.parameters.length) = some 3 := by decide +kernel
def kvX0_sumWhenSurely (u : Nat → Int64) (d : Nat → Int64) (lw : Nat → Int64) (uw : Nat → Int64) (an : Nat → Int64) (qn : Nat) (q : Int32) (k : Int32) (up : Int32) : Int64 := kvX0_sumOfBoth (kl_whO (kvX0_put_c0 12 u k up.toInt64) (kvX0_put_c0 12 d k (1 : Int64)) (0 : Int32) lw 6) (kl_whO (kvX0_put_c0 12 u k up.toInt64) (kvX0_put_c0 12 d k (1 : Int64)) (nI 6) uw 6) an qn q q
set_option maxHeartbeats 4000000 in
set_option maxRecDepth 100000 in
theorem kX0_sumWhenSurely (l : Launch) (D : va_G) (cJ : ClassId) (h a1 a2 a3 a4 a5 : Nat) (u d lw uw an : Nat → Int64) (fn qn : Nat) (sd : Int64) (q : Int32) (k : Int32) (up : Int32) : MuL l yX0_sumWhenSurely wsX0_sumWhenSurely ({ frames := 4, cells := 0, slots := 0, locals := 99 } : Room) [.ref h, .int q, .int k, .int up] D (xW cJ h a1 a2 a3 a4 a5 u d lw uw an (nI fn) (nI qn) sd) [(cJ, .long)] (xW cJ h a1 a2 a3 a4 a5 (kvX0_put_c0 12 (kvX0_put_c0 12 u k up.toInt64) k (kvX0_at 12 u k)) (kvX0_put_c0 12 (kvX0_put_c0 12 d k (1 : Int64)) k (kvX0_at 12 d k)) (kl_whO (kvX0_put_c0 12 (kvX0_put_c0 12 u k up.toInt64) k (kvX0_at 12 u k)) (kvX0_put_c0 12 (kvX0_put_c0 12 d k (1 : Int64)) k (kvX0_at 12 d k)) (0 : Int32) (kl_whO (kvX0_put_c0 12 u k up.toInt64) (kvX0_put_c0 12 d k (1 : Int64)) (0 : Int32) lw 6) 6) (kl_whO (kvX0_put_c0 12 (kvX0_put_c0 12 u k up.toInt64) k (kvX0_at 12 u k)) (kvX0_put_c0 12 (kvX0_put_c0 12 d k (1 : Int64)) k (kvX0_at 12 d k)) (nI 6) (kl_whO (kvX0_put_c0 12 u k up.toInt64) (kvX0_put_c0 12 d k (1 : Int64)) (nI 6) uw 6) 6) an (nI fn) (nI qn) sd) (kvX0_sumWhenSurely u d lw uw an qn q k up) := by
  intro sz
  refine oo_head (C := RX0) (cc := cX0_sumWhenSurely) (maxL := 10) (ret := (some .long)) (by decide) rfl rfl (Nat.le_of_ble_eq_true rfl) ?_
  intro p e s m below meth c hx hb hr hlocks hml hown hnm hts hpre ls hl
  have hl : lv_has ls 10 [(0, .ref h), (1, .int q), (2, .int k), (3, .int up)] := hl
  obtain ⟨rfl, hP, hK, hD0⟩ := hpre
  have hD := hD0.self (sz := s.heap.size)
  have hA := oo_A (xW cJ h a1 a2 a3 a4 a5 u d lw uw an (nI fn) (nI qn) sd) s
  have hS : va_S (va_A (xW cJ h a1 a2 a3 a4 a5 u d lw uw an (nI fn) (nI qn) sd) s.heap.size) s.heap s.heap [] := va_S.rf
  have hin : ∀ w ∈ wsX00, w ∈ wsX0_sumWhenSurely := fun w h => List.mem_cons_of_mem _ (List.mem_append_right _ h)
  refine lv_aload_n hx hb dX0_sumWhenSurely_0 rfl (lv_at hl 0 rfl) ?_
  refine va_get (D := D) (ci := 0) (v := .ref a1) (C := RX0) (T := TX0) (N := 8) hx hb hts hin hown hK hP 0 rfl rfl 0 (by decide) (hts (.fieldLink RX0 9 "OddsSampling" "ups" "[J") (by decide +kernel)) (fun _ h9 => h9) rfl dX0_sumWhenSurely_1 ?_
  refine lv_iload_n hx hb dX0_sumWhenSurely_4 rfl (lv_at hl 2 rfl) ?_
  refine ro_calll (va_runS (As := [.ref a1, .int k]) (rest := []) ⟨hx, hb, hml, hown, hts⟩ (kX0_at l D cJ a1 12 u k (by omega)) (va_cwS 2 hts gX0_sumWhenSurely_X0_at rfl rfl rfl ok_X0_at ⟨Nat.le_of_ble_eq_true rfl, Nat.le_of_ble_eq_true rfl⟩) ⟨oo_blind, oo_ps hP hK [1] rfl [0] rfl⟩ rfl rfl hl.1 rfl (lv_room (Nat.le_of_ble_eq_true rfl)) dX0_sumWhenSurely_5 ⟨Nat.le_of_ble_eq_true rfl, Nat.le_of_ble_eq_true rfl⟩) hP hS (fun H locs hP hS => ?_)
  refine lv_lstore (lv' := [(4, .long (kvX0_at 12 u k)), (0, .ref h), (1, .int q), (2, .int k), (3, .int up)]) hx hb dX0_sumWhenSurely_8 hl (by decide) rfl (fun ls hl => ?_)
  refine lv_aload_n hx hb dX0_sumWhenSurely_10 rfl (lv_at hl 1 rfl) ?_
  refine va_get (D := D) (ci := 0) (v := .ref a2) (C := RX0) (T := TX0) (N := 8) hx hb hts hin hown hK hP 0 rfl rfl 1 (by decide) (hts (.fieldLink RX0 13 "OddsSampling" "downs" "[J") (by decide +kernel)) (fun _ h9 => h9) rfl dX0_sumWhenSurely_11 ?_
  refine lv_iload_n hx hb dX0_sumWhenSurely_14 rfl (lv_at hl 3 rfl) ?_
  refine ro_calll (va_runS (As := [.ref a2, .int k]) (rest := []) ⟨hx, hb, hml, hown, hts⟩ (kX0_at l D cJ a2 12 d k (by omega)) (va_cwS 2 hts gX0_sumWhenSurely_X0_at rfl rfl rfl ok_X0_at ⟨Nat.le_of_ble_eq_true rfl, Nat.le_of_ble_eq_true rfl⟩) ⟨oo_blind, oo_ps hP hK [2] rfl [0] rfl⟩ rfl rfl hl.1 rfl (lv_room (Nat.le_of_ble_eq_true rfl)) dX0_sumWhenSurely_15 ⟨Nat.le_of_ble_eq_true rfl, Nat.le_of_ble_eq_true rfl⟩) hP hS (fun H locs hP hS => ?_)
  refine lv_lstore (lv' := [(6, .long (kvX0_at 12 d k)), (4, .long (kvX0_at 12 u k)), (0, .ref h), (1, .int q), (2, .int k), (3, .int up)]) hx hb dX0_sumWhenSurely_18 hl (by decide) rfl (fun ls hl => ?_)
  refine lv_aload_n hx hb dX0_sumWhenSurely_20 rfl (lv_at hl 2 rfl) ?_
  refine lv_iload_n hx hb dX0_sumWhenSurely_21 rfl (lv_at hl 4 rfl) ?_
  refine lv_iload_n hx hb dX0_sumWhenSurely_22 rfl (lv_at hl 5 rfl) ?_
  refine lv_i2l hx hb dX0_sumWhenSurely_23 rfl ?_
  refine lv_lconst (v := (1 : Int64)) hx hb dX0_sumWhenSurely_24 (by decide) ?_
  refine mu_callv (va_runV (As := [.int k, .long up.toInt64, .long (1 : Int64)]) (rest := []) ⟨hx, hb, hml, hown, hts⟩ (kX0_putOdds l D cJ h a1 a2 a3 a4 a5 u d lw uw an fn qn sd k up.toInt64 (1 : Int64) _) (cwV 3 hts gX0_sumWhenSurely_X0_putOdds rfl rfl rfl ok_X0_putOdds ⟨Nat.le_of_ble_eq_true rfl, Nat.le_of_ble_eq_true rfl⟩) ⟨oo_blindM, va_recv hK hP (ci := 0) (q0 := 0) rfl rfl, oo_psM hP hD hK [0, 1, 2, 3, 4, 5] rfl rfl [0] rfl⟩ rfl rfl hl.1 rfl (lv_room (Nat.le_of_ble_eq_true rfl)) dX0_sumWhenSurely_25 ⟨Nat.le_of_ble_eq_true rfl, Nat.le_of_ble_eq_true rfl⟩) hP hD hS hA [0, 1, 2, 3, 4, 5] rfl rfl (fun H locs hP hD hS => ?_)
  have hP : va_P D vwCl (xW cJ h a1 a2 a3 a4 a5 (kvX0_put_c0 12 u k up.toInt64) (kvX0_put_c0 12 d k (1 : Int64)) (kl_whO (kvX0_put_c0 12 u k up.toInt64) (kvX0_put_c0 12 d k (1 : Int64)) (0 : Int32) lw 6) (kl_whO (kvX0_put_c0 12 u k up.toInt64) (kvX0_put_c0 12 d k (1 : Int64)) (nI 6) uw 6) an (nI fn) (nI qn) sd) H := hP
  have hD : va_D _ (xW cJ h a1 a2 a3 a4 a5 (kvX0_put_c0 12 u k up.toInt64) (kvX0_put_c0 12 d k (1 : Int64)) (kl_whO (kvX0_put_c0 12 u k up.toInt64) (kvX0_put_c0 12 d k (1 : Int64)) (0 : Int32) lw 6) (kl_whO (kvX0_put_c0 12 u k up.toInt64) (kvX0_put_c0 12 d k (1 : Int64)) (nI 6) uw 6) an (nI fn) (nI qn) sd) := hD
  refine lv_aload_n hx hb dX0_sumWhenSurely_28 rfl (lv_at hl 2 rfl) ?_
  refine lv_iload_n hx hb dX0_sumWhenSurely_29 rfl (lv_at hl 3 rfl) ?_
  refine lv_iload_n hx hb dX0_sumWhenSurely_30 rfl (lv_at hl 3 rfl) ?_
  refine ro_calll (va_runV (As := [.int q, .int q]) (rest := []) ⟨hx, hb, hml, hown, hts⟩ (kX0_sumOfBoth l D cJ h a1 a2 a3 a4 a5 (kvX0_put_c0 12 u k up.toInt64) (kvX0_put_c0 12 d k (1 : Int64)) (kl_whO (kvX0_put_c0 12 u k up.toInt64) (kvX0_put_c0 12 d k (1 : Int64)) (0 : Int32) lw 6) (kl_whO (kvX0_put_c0 12 u k up.toInt64) (kvX0_put_c0 12 d k (1 : Int64)) (nI 6) uw 6) an fn qn sd q q) (cwV 2 hts gX0_sumWhenSurely_X0_sumOfBoth rfl rfl rfl ok_X0_sumOfBoth ⟨Nat.le_of_ble_eq_true rfl, Nat.le_of_ble_eq_true rfl⟩) ⟨oo_blind, va_recv hK hP (ci := 0) (q0 := 0) rfl rfl, oo_ps hP hK [0, 1, 2, 3, 4, 5] rfl [0] rfl⟩ rfl rfl hl.1 rfl (lv_room (Nat.le_of_ble_eq_true rfl)) dX0_sumWhenSurely_31 ⟨Nat.le_of_ble_eq_true rfl, Nat.le_of_ble_eq_true rfl⟩) hP hS (fun H locs hP hS => ?_)
  refine lv_lstore (lv' := [(8, .long (kvX0_sumOfBoth (kl_whO (kvX0_put_c0 12 u k up.toInt64) (kvX0_put_c0 12 d k (1 : Int64)) (0 : Int32) lw 6) (kl_whO (kvX0_put_c0 12 u k up.toInt64) (kvX0_put_c0 12 d k (1 : Int64)) (nI 6) uw 6) an qn q q)), (6, .long (kvX0_at 12 d k)), (4, .long (kvX0_at 12 u k)), (0, .ref h), (1, .int q), (2, .int k), (3, .int up)]) hx hb dX0_sumWhenSurely_34 hl (by decide) rfl (fun ls hl => ?_)
  refine lv_aload_n hx hb dX0_sumWhenSurely_36 rfl (lv_at hl 3 rfl) ?_
  refine lv_iload_n hx hb dX0_sumWhenSurely_37 rfl (lv_at hl 5 rfl) ?_
  refine lv_lload hx hb dX0_sumWhenSurely_38 (lv_at hl 2 rfl) ?_
  refine lv_lload hx hb dX0_sumWhenSurely_40 (lv_at hl 1 rfl) ?_
  refine mu_callv (va_runV (As := [.int k, .long (kvX0_at 12 u k), .long (kvX0_at 12 d k)]) (rest := []) ⟨hx, hb, hml, hown, hts⟩ (kX0_putOdds l D cJ h a1 a2 a3 a4 a5 (kvX0_put_c0 12 u k up.toInt64) (kvX0_put_c0 12 d k (1 : Int64)) (kl_whO (kvX0_put_c0 12 u k up.toInt64) (kvX0_put_c0 12 d k (1 : Int64)) (0 : Int32) lw 6) (kl_whO (kvX0_put_c0 12 u k up.toInt64) (kvX0_put_c0 12 d k (1 : Int64)) (nI 6) uw 6) an fn qn sd k (kvX0_at 12 u k) (kvX0_at 12 d k) _) (cwV 3 hts gX0_sumWhenSurely_X0_putOdds rfl rfl rfl ok_X0_putOdds ⟨Nat.le_of_ble_eq_true rfl, Nat.le_of_ble_eq_true rfl⟩) ⟨oo_blindM, va_recv hK hP (ci := 0) (q0 := 0) rfl rfl, oo_psM hP hD hK [0, 1, 2, 3, 4, 5] rfl rfl [0] rfl⟩ rfl rfl hl.1 rfl (lv_room (Nat.le_of_ble_eq_true rfl)) dX0_sumWhenSurely_42 ⟨Nat.le_of_ble_eq_true rfl, Nat.le_of_ble_eq_true rfl⟩) hP hD hS hA [0, 1, 2, 3, 4, 5] rfl rfl (fun H locs hP hD hS => ?_)
  have hP : va_P D vwCl (xW cJ h a1 a2 a3 a4 a5 (kvX0_put_c0 12 (kvX0_put_c0 12 u k up.toInt64) k (kvX0_at 12 u k)) (kvX0_put_c0 12 (kvX0_put_c0 12 d k (1 : Int64)) k (kvX0_at 12 d k)) (kl_whO (kvX0_put_c0 12 (kvX0_put_c0 12 u k up.toInt64) k (kvX0_at 12 u k)) (kvX0_put_c0 12 (kvX0_put_c0 12 d k (1 : Int64)) k (kvX0_at 12 d k)) (0 : Int32) (kl_whO (kvX0_put_c0 12 u k up.toInt64) (kvX0_put_c0 12 d k (1 : Int64)) (0 : Int32) lw 6) 6) (kl_whO (kvX0_put_c0 12 (kvX0_put_c0 12 u k up.toInt64) k (kvX0_at 12 u k)) (kvX0_put_c0 12 (kvX0_put_c0 12 d k (1 : Int64)) k (kvX0_at 12 d k)) (nI 6) (kl_whO (kvX0_put_c0 12 u k up.toInt64) (kvX0_put_c0 12 d k (1 : Int64)) (nI 6) uw 6) 6) an (nI fn) (nI qn) sd) H := hP
  have hD : va_D _ (xW cJ h a1 a2 a3 a4 a5 (kvX0_put_c0 12 (kvX0_put_c0 12 u k up.toInt64) k (kvX0_at 12 u k)) (kvX0_put_c0 12 (kvX0_put_c0 12 d k (1 : Int64)) k (kvX0_at 12 d k)) (kl_whO (kvX0_put_c0 12 (kvX0_put_c0 12 u k up.toInt64) k (kvX0_at 12 u k)) (kvX0_put_c0 12 (kvX0_put_c0 12 d k (1 : Int64)) k (kvX0_at 12 d k)) (0 : Int32) (kl_whO (kvX0_put_c0 12 u k up.toInt64) (kvX0_put_c0 12 d k (1 : Int64)) (0 : Int32) lw 6) 6) (kl_whO (kvX0_put_c0 12 (kvX0_put_c0 12 u k up.toInt64) k (kvX0_at 12 u k)) (kvX0_put_c0 12 (kvX0_put_c0 12 d k (1 : Int64)) k (kvX0_at 12 d k)) (nI 6) (kl_whO (kvX0_put_c0 12 u k up.toInt64) (kvX0_put_c0 12 d k (1 : Int64)) (nI 6) uw 6) 6) an (nI fn) (nI qn) sd) := hD
  refine lv_lload hx hb dX0_sumWhenSurely_45 (lv_at hl 0 rfl) ?_
  exact mu_retl hx hb hr hlocks hP hD hS (by unfold kvX0_sumWhenSurely; rfl) dX0_sumWhenSurely_47
theorem ok_X0_fact : yX0_fact.cls = RX0 ∧ yX0_fact.cls ≠ "java/lang/invoke/MethodHandle" ∧ yX0_fact.cls ≠ "java/lang/invoke/VarHandle" ∧ (parseMethodDescriptor yX0_fact.desc).map (fun d => d.parameters.length) = some 2 := by decide +kernel
def kvX0_fact (fn : Nat) (up : Int32) (dn : Int32) : Int32 := if (kvX0_areOdds up dn) = 0 then (-1 : Int32) else (if (nI fn) < (nI 12) then (nI fn) else (-3 : Int32))
def kvX0_fact_u (u : Nat → Int64) (fn : Nat) (up : Int32) (dn : Int32) : Nat → Int64 := if (kvX0_areOdds up dn) = 0 then u else (if (nI fn) < (nI 12) then (kvX0_put_c0 12 u (nI fn) up.toInt64) else u)
def kvX0_fact_d (d : Nat → Int64) (fn : Nat) (up : Int32) (dn : Int32) : Nat → Int64 := if (kvX0_areOdds up dn) = 0 then d else (if (nI fn) < (nI 12) then (kvX0_put_c0 12 d (nI fn) dn.toInt64) else d)
def kvX0_fact_lw (u : Nat → Int64) (d : Nat → Int64) (lw : Nat → Int64) (fn : Nat) (up : Int32) (dn : Int32) : Nat → Int64 := if (kvX0_areOdds up dn) = 0 then lw else (if (nI fn) < (nI 12) then (kl_whO (kvX0_put_c0 12 u (nI fn) up.toInt64) (kvX0_put_c0 12 d (nI fn) dn.toInt64) (0 : Int32) lw 6) else lw)
def kvX0_fact_uw (u : Nat → Int64) (d : Nat → Int64) (uw : Nat → Int64) (fn : Nat) (up : Int32) (dn : Int32) : Nat → Int64 := if (kvX0_areOdds up dn) = 0 then uw else (if (nI fn) < (nI 12) then (kl_whO (kvX0_put_c0 12 u (nI fn) up.toInt64) (kvX0_put_c0 12 d (nI fn) dn.toInt64) (nI 6) uw 6) else uw)
def kvX0_fact_fc (fn : Nat) (up : Int32) (dn : Int32) : Int32 := if (kvX0_areOdds up dn) = 0 then (nI fn) else (if (nI fn) < (nI 12) then (nI (fn + 1)) else (nI fn))
set_option maxHeartbeats 4000000 in
set_option maxRecDepth 100000 in
theorem kX0_fact (l : Launch) (D : va_G) (cJ : ClassId) (h a1 a2 a3 a4 a5 : Nat) (u d lw uw an : Nat → Int64) (fn qn : Nat) (sd : Int64) (up : Int32) (dn : Int32) : MuI l yX0_fact wsX0_fact ({ frames := 4, cells := 0, slots := 0, locals := 99 } : Room) [.ref h, .int up, .int dn] D (xW cJ h a1 a2 a3 a4 a5 u d lw uw an (nI fn) (nI qn) sd) [(cJ, .long)] (xW cJ h a1 a2 a3 a4 a5 (kvX0_fact_u u fn up dn) (kvX0_fact_d d fn up dn) (kvX0_fact_lw u d lw fn up dn) (kvX0_fact_uw u d uw fn up dn) an (kvX0_fact_fc fn up dn) (nI qn) sd) (kvX0_fact fn up dn) := by
  intro sz
  refine oo_head (C := RX0) (cc := cX0_fact) (maxL := 4) (ret := (some .int)) (by decide) rfl rfl (Nat.le_of_ble_eq_true rfl) ?_
  intro p e s m below meth c hx hb hr hlocks hml hown hnm hts hpre ls hl
  have hl : lv_has ls 4 [(0, .ref h), (1, .int up), (2, .int dn)] := hl
  obtain ⟨rfl, hP, hK, hD0⟩ := hpre
  have hD := hD0.self (sz := s.heap.size)
  have hA := oo_A (xW cJ h a1 a2 a3 a4 a5 u d lw uw an (nI fn) (nI qn) sd) s
  have hS : va_S (va_A (xW cJ h a1 a2 a3 a4 a5 u d lw uw an (nI fn) (nI qn) sd) s.heap.size) s.heap s.heap [] := va_S.rf
  have hin : ∀ w ∈ wsX00, w ∈ wsX0_fact := fun w h => List.mem_cons_of_mem _ (List.mem_append_right _ h)
  refine lv_iload_n hx hb dX0_fact_0 rfl (lv_at hl 1 rfl) ?_
  refine lv_iload_n hx hb dX0_fact_1 rfl (lv_at hl 2 rfl) ?_
  refine ro_calli (va_runS (As := [.int up, .int dn]) (rest := []) ⟨hx, hb, hml, hown, hts⟩ (kX0_areOdds l D up dn) (va_cwS 2 hts gX0_fact_X0_areOdds rfl rfl rfl ok_X0_areOdds ⟨Nat.le_of_ble_eq_true rfl, Nat.le_of_ble_eq_true rfl⟩) ⟨oo_blind, oo_ps hP hK [] rfl [] rfl⟩ rfl rfl hl.1 rfl (lv_room (Nat.le_of_ble_eq_true rfl)) dX0_fact_2 ⟨Nat.le_of_ble_eq_true rfl, Nat.le_of_ble_eq_true rfl⟩) hP hS (fun H locs hP hS => ?_)
  refine lv_if_ne (tgt := 10) hx hb dX0_fact_5 (by decide) (fun c_5 => ?_) (fun c_5 => ?_)
  · refine lv_aload_n hx hb dX0_fact_10 rfl (lv_at hl 0 rfl) ?_
    refine va_get (D := D) (ci := 0) (v := .int (nI fn)) (C := RX0) (T := TX0) (N := 8) hx hb hts hin hown hK hP 0 rfl rfl 5 (by decide) (hts (.fieldLink RX0 25 "OddsSampling" "factCount" "I") (by decide +kernel)) (fun _ h9 => h9) rfl dX0_fact_11 ?_
    refine lv_bipush (v := nI 12) hx hb dX0_fact_14 (by decide) ?_
    refine lv_icmp_lt (tgt := 22) hx hb dX0_fact_16 (by decide) (fun c_16 => ?_) (fun c_16 => ?_)
    · refine lv_aload_n hx hb dX0_fact_22 rfl (lv_at hl 0 rfl) ?_
      refine va_get (D := D) (ci := 0) (v := .int (nI fn)) (C := RX0) (T := TX0) (N := 8) hx hb hts hin hown hK hP 0 rfl rfl 5 (by decide) (hts (.fieldLink RX0 25 "OddsSampling" "factCount" "I") (by decide +kernel)) (fun _ h9 => h9) rfl dX0_fact_23 ?_
      refine lv_istore_n (lv' := [(3, .int (nI fn)), (0, .ref h), (1, .int up), (2, .int dn)]) hx hb dX0_fact_26 rfl hl (by decide) rfl (fun ls hl => ?_)
      refine lv_aload_n hx hb dX0_fact_27 rfl (lv_at hl 1 rfl) ?_
      refine lv_dup hx hb dX0_fact_28 rfl ?_
      refine va_get (D := D) (ci := 0) (v := .int (nI fn)) (C := RX0) (T := TX0) (N := 8) hx hb hts hin hown hK hP 0 rfl rfl 5 (by decide) (hts (.fieldLink RX0 25 "OddsSampling" "factCount" "I") (by decide +kernel)) (fun _ h9 => h9) rfl dX0_fact_29 ?_
      refine lv_iconst (v := (1 : Int32)) hx hb dX0_fact_32 (by decide) ?_
      refine lv_iadd hx hb dX0_fact_33 ?_
      refine oo_topI (y := nI (fn + 1)) (nI_1 fn) ?_
      refine va_put (D := D) (ci := 0) (v := .int (nI (fn + 1))) (ty := .int) (C := RX0) (T := TX0) (N := 8) hx hb hts hin tyX0 tyX0_ok nmX0 hown hK hP hD hS 0 rfl rfl 5 (by decide) (hts (.fieldLink RX0 25 "OddsSampling" "factCount" "I") (by decide +kernel)) (fun _ h9 => h9) rfl (by decide +kernel) rfl rfl (Nat.le_of_ble_eq_true rfl) dX0_fact_34 (fun H locs hP hD hS => ?_)
      have hP : va_P D vwCl (xW cJ h a1 a2 a3 a4 a5 u d lw uw an (nI (fn + 1)) (nI qn) sd) H := hP
      have hD : va_D _ (xW cJ h a1 a2 a3 a4 a5 u d lw uw an (nI (fn + 1)) (nI qn) sd) := hD
      refine lv_aload_n hx hb dX0_fact_37 rfl (lv_at hl 1 rfl) ?_
      refine lv_iload_n hx hb dX0_fact_38 rfl (lv_at hl 0 rfl) ?_
      refine lv_iload_n hx hb dX0_fact_39 rfl (lv_at hl 2 rfl) ?_
      refine lv_i2l hx hb dX0_fact_40 rfl ?_
      refine lv_iload_n hx hb dX0_fact_41 rfl (lv_at hl 3 rfl) ?_
      refine lv_i2l hx hb dX0_fact_42 rfl ?_
      refine mu_callv (va_runV (As := [.int (nI fn), .long up.toInt64, .long dn.toInt64]) (rest := []) ⟨hx, hb, hml, hown, hts⟩ (kX0_putOdds l D cJ h a1 a2 a3 a4 a5 u d lw uw an (fn + 1) qn sd (nI fn) up.toInt64 dn.toInt64 _) (cwV 3 hts gX0_fact_X0_putOdds rfl rfl rfl ok_X0_putOdds ⟨Nat.le_of_ble_eq_true rfl, Nat.le_of_ble_eq_true rfl⟩) ⟨oo_blindM, va_recv hK hP (ci := 0) (q0 := 0) rfl rfl, oo_psM hP hD hK [0, 1, 2, 3, 4, 5] rfl rfl [0] rfl⟩ rfl rfl hl.1 rfl (lv_room (Nat.le_of_ble_eq_true rfl)) dX0_fact_43 ⟨Nat.le_of_ble_eq_true rfl, Nat.le_of_ble_eq_true rfl⟩) hP hD hS hA [0, 1, 2, 3, 4, 5] rfl rfl (fun H locs hP hD hS => ?_)
      have hP : va_P D vwCl (xW cJ h a1 a2 a3 a4 a5 (kvX0_put_c0 12 u (nI fn) up.toInt64) (kvX0_put_c0 12 d (nI fn) dn.toInt64) (kl_whO (kvX0_put_c0 12 u (nI fn) up.toInt64) (kvX0_put_c0 12 d (nI fn) dn.toInt64) (0 : Int32) lw 6) (kl_whO (kvX0_put_c0 12 u (nI fn) up.toInt64) (kvX0_put_c0 12 d (nI fn) dn.toInt64) (nI 6) uw 6) an (nI (fn + 1)) (nI qn) sd) H := hP
      have hD : va_D _ (xW cJ h a1 a2 a3 a4 a5 (kvX0_put_c0 12 u (nI fn) up.toInt64) (kvX0_put_c0 12 d (nI fn) dn.toInt64) (kl_whO (kvX0_put_c0 12 u (nI fn) up.toInt64) (kvX0_put_c0 12 d (nI fn) dn.toInt64) (0 : Int32) lw 6) (kl_whO (kvX0_put_c0 12 u (nI fn) up.toInt64) (kvX0_put_c0 12 d (nI fn) dn.toInt64) (nI 6) uw 6) an (nI (fn + 1)) (nI qn) sd) := hD
      refine lv_iload_n hx hb dX0_fact_46 rfl (lv_at hl 0 rfl) ?_
      have hP := Eq.mp (congrArg (fun z9 => va_P D vwCl (xW cJ h a1 a2 a3 a4 a5 (kvX0_put_c0 12 u (nI fn) up.toInt64) (kvX0_put_c0 12 d (nI fn) dn.toInt64) (kl_whO (kvX0_put_c0 12 u (nI fn) up.toInt64) (kvX0_put_c0 12 d (nI fn) dn.toInt64) (0 : Int32) lw 6) (kl_whO (kvX0_put_c0 12 u (nI fn) up.toInt64) (kvX0_put_c0 12 d (nI fn) dn.toInt64) (nI 6) uw 6) an z9 (nI qn) sd) H) (show nI (fn + 1) = kvX0_fact_fc fn up dn from (by unfold kvX0_fact_fc; rw [if_neg c_5, if_pos c_16]))) hP
      have hP := Eq.mp (congrArg (fun z9 => va_P D vwCl (xW cJ h a1 a2 a3 a4 a5 z9 (kvX0_put_c0 12 d (nI fn) dn.toInt64) (kl_whO (kvX0_put_c0 12 u (nI fn) up.toInt64) (kvX0_put_c0 12 d (nI fn) dn.toInt64) (0 : Int32) lw 6) (kl_whO (kvX0_put_c0 12 u (nI fn) up.toInt64) (kvX0_put_c0 12 d (nI fn) dn.toInt64) (nI 6) uw 6) an (kvX0_fact_fc fn up dn) (nI qn) sd) H) (show (kvX0_put_c0 12 u (nI fn) up.toInt64) = kvX0_fact_u u fn up dn from (by unfold kvX0_fact_u; rw [if_neg c_5, if_pos c_16]))) hP
      have hP := Eq.mp (congrArg (fun z9 => va_P D vwCl (xW cJ h a1 a2 a3 a4 a5 (kvX0_fact_u u fn up dn) z9 (kl_whO (kvX0_put_c0 12 u (nI fn) up.toInt64) (kvX0_put_c0 12 d (nI fn) dn.toInt64) (0 : Int32) lw 6) (kl_whO (kvX0_put_c0 12 u (nI fn) up.toInt64) (kvX0_put_c0 12 d (nI fn) dn.toInt64) (nI 6) uw 6) an (kvX0_fact_fc fn up dn) (nI qn) sd) H) (show (kvX0_put_c0 12 d (nI fn) dn.toInt64) = kvX0_fact_d d fn up dn from (by unfold kvX0_fact_d; rw [if_neg c_5, if_pos c_16]))) hP
      have hP := Eq.mp (congrArg (fun z9 => va_P D vwCl (xW cJ h a1 a2 a3 a4 a5 (kvX0_fact_u u fn up dn) (kvX0_fact_d d fn up dn) z9 (kl_whO (kvX0_put_c0 12 u (nI fn) up.toInt64) (kvX0_put_c0 12 d (nI fn) dn.toInt64) (nI 6) uw 6) an (kvX0_fact_fc fn up dn) (nI qn) sd) H) (show kl_whO (kvX0_put_c0 12 u (nI fn) up.toInt64) (kvX0_put_c0 12 d (nI fn) dn.toInt64) (0 : Int32) lw 6 = kvX0_fact_lw u d lw fn up dn from (by unfold kvX0_fact_lw; rw [if_neg c_5, if_pos c_16]))) hP
      have hP := Eq.mp (congrArg (fun z9 => va_P D vwCl (xW cJ h a1 a2 a3 a4 a5 (kvX0_fact_u u fn up dn) (kvX0_fact_d d fn up dn) (kvX0_fact_lw u d lw fn up dn) z9 an (kvX0_fact_fc fn up dn) (nI qn) sd) H) (show kl_whO (kvX0_put_c0 12 u (nI fn) up.toInt64) (kvX0_put_c0 12 d (nI fn) dn.toInt64) (nI 6) uw 6 = kvX0_fact_uw u d uw fn up dn from (by unfold kvX0_fact_uw; rw [if_neg c_5, if_pos c_16]))) hP
      have hP : va_P D vwCl (xW cJ h a1 a2 a3 a4 a5 (kvX0_fact_u u fn up dn) (kvX0_fact_d d fn up dn) (kvX0_fact_lw u d lw fn up dn) (kvX0_fact_uw u d uw fn up dn) an (kvX0_fact_fc fn up dn) (nI qn) sd) H := hP
      have hD : va_D _ (xW cJ h a1 a2 a3 a4 a5 (kvX0_fact_u u fn up dn) (kvX0_fact_d d fn up dn) (kvX0_fact_lw u d lw fn up dn) (kvX0_fact_uw u d uw fn up dn) an (kvX0_fact_fc fn up dn) (nI qn) sd) := oo_Dre hD rfl
      exact mu_reti hx hb hr hlocks hP hD hS (by unfold kvX0_fact; rw [if_neg c_5, if_pos c_16]) dX0_fact_47
    · refine lv_bipush (v := (-3 : Int32)) hx hb dX0_fact_19 (by decide) ?_
      have hP := Eq.mp (congrArg (fun z9 => va_P D vwCl (xW cJ h a1 a2 a3 a4 a5 u d lw uw an z9 (nI qn) sd) H) (show nI fn = kvX0_fact_fc fn up dn from (by unfold kvX0_fact_fc; rw [if_neg c_5, if_neg c_16]))) hP
      have hP := Eq.mp (congrArg (fun z9 => va_P D vwCl (xW cJ h a1 a2 a3 a4 a5 z9 d lw uw an (kvX0_fact_fc fn up dn) (nI qn) sd) H) (show u = kvX0_fact_u u fn up dn from (by unfold kvX0_fact_u; rw [if_neg c_5, if_neg c_16]))) hP
      have hP := Eq.mp (congrArg (fun z9 => va_P D vwCl (xW cJ h a1 a2 a3 a4 a5 (kvX0_fact_u u fn up dn) z9 lw uw an (kvX0_fact_fc fn up dn) (nI qn) sd) H) (show d = kvX0_fact_d d fn up dn from (by unfold kvX0_fact_d; rw [if_neg c_5, if_neg c_16]))) hP
      have hP := Eq.mp (congrArg (fun z9 => va_P D vwCl (xW cJ h a1 a2 a3 a4 a5 (kvX0_fact_u u fn up dn) (kvX0_fact_d d fn up dn) z9 uw an (kvX0_fact_fc fn up dn) (nI qn) sd) H) (show lw = kvX0_fact_lw u d lw fn up dn from (by unfold kvX0_fact_lw; rw [if_neg c_5, if_neg c_16]))) hP
      have hP := Eq.mp (congrArg (fun z9 => va_P D vwCl (xW cJ h a1 a2 a3 a4 a5 (kvX0_fact_u u fn up dn) (kvX0_fact_d d fn up dn) (kvX0_fact_lw u d lw fn up dn) z9 an (kvX0_fact_fc fn up dn) (nI qn) sd) H) (show uw = kvX0_fact_uw u d uw fn up dn from (by unfold kvX0_fact_uw; rw [if_neg c_5, if_neg c_16]))) hP
      have hP : va_P D vwCl (xW cJ h a1 a2 a3 a4 a5 (kvX0_fact_u u fn up dn) (kvX0_fact_d d fn up dn) (kvX0_fact_lw u d lw fn up dn) (kvX0_fact_uw u d uw fn up dn) an (kvX0_fact_fc fn up dn) (nI qn) sd) H := hP
      have hD : va_D _ (xW cJ h a1 a2 a3 a4 a5 (kvX0_fact_u u fn up dn) (kvX0_fact_d d fn up dn) (kvX0_fact_lw u d lw fn up dn) (kvX0_fact_uw u d uw fn up dn) an (kvX0_fact_fc fn up dn) (nI qn) sd) := oo_Dre hD rfl
      exact mu_reti hx hb hr hlocks hP hD hS (by unfold kvX0_fact; rw [if_neg c_5, if_neg c_16]) dX0_fact_21
  · refine lv_iconst (v := (-1 : Int32)) hx hb dX0_fact_8 (by decide) ?_
    have hP := Eq.mp (congrArg (fun z9 => va_P D vwCl (xW cJ h a1 a2 a3 a4 a5 u d lw uw an z9 (nI qn) sd) H) (show nI fn = kvX0_fact_fc fn up dn from (by unfold kvX0_fact_fc; rw [if_pos c_5]))) hP
    have hP := Eq.mp (congrArg (fun z9 => va_P D vwCl (xW cJ h a1 a2 a3 a4 a5 z9 d lw uw an (kvX0_fact_fc fn up dn) (nI qn) sd) H) (show u = kvX0_fact_u u fn up dn from (by unfold kvX0_fact_u; rw [if_pos c_5]))) hP
    have hP := Eq.mp (congrArg (fun z9 => va_P D vwCl (xW cJ h a1 a2 a3 a4 a5 (kvX0_fact_u u fn up dn) z9 lw uw an (kvX0_fact_fc fn up dn) (nI qn) sd) H) (show d = kvX0_fact_d d fn up dn from (by unfold kvX0_fact_d; rw [if_pos c_5]))) hP
    have hP := Eq.mp (congrArg (fun z9 => va_P D vwCl (xW cJ h a1 a2 a3 a4 a5 (kvX0_fact_u u fn up dn) (kvX0_fact_d d fn up dn) z9 uw an (kvX0_fact_fc fn up dn) (nI qn) sd) H) (show lw = kvX0_fact_lw u d lw fn up dn from (by unfold kvX0_fact_lw; rw [if_pos c_5]))) hP
    have hP := Eq.mp (congrArg (fun z9 => va_P D vwCl (xW cJ h a1 a2 a3 a4 a5 (kvX0_fact_u u fn up dn) (kvX0_fact_d d fn up dn) (kvX0_fact_lw u d lw fn up dn) z9 an (kvX0_fact_fc fn up dn) (nI qn) sd) H) (show uw = kvX0_fact_uw u d uw fn up dn from (by unfold kvX0_fact_uw; rw [if_pos c_5]))) hP
    have hP : va_P D vwCl (xW cJ h a1 a2 a3 a4 a5 (kvX0_fact_u u fn up dn) (kvX0_fact_d d fn up dn) (kvX0_fact_lw u d lw fn up dn) (kvX0_fact_uw u d uw fn up dn) an (kvX0_fact_fc fn up dn) (nI qn) sd) H := hP
    have hD : va_D _ (xW cJ h a1 a2 a3 a4 a5 (kvX0_fact_u u fn up dn) (kvX0_fact_d d fn up dn) (kvX0_fact_lw u d lw fn up dn) (kvX0_fact_uw u d uw fn up dn) an (kvX0_fact_fc fn up dn) (nI qn) sd) := oo_Dre hD rfl
    exact mu_reti hx hb hr hlocks hP hD hS (by unfold kvX0_fact; rw [if_pos c_5]) dX0_fact_9
theorem ok_X0_odds : yX0_odds.cls = RX0 ∧ yX0_odds.cls ≠ "java/lang/invoke/MethodHandle" ∧ yX0_odds.cls ≠ "java/lang/invoke/VarHandle" ∧ (parseMethodDescriptor yX0_odds.desc).map (fun d => d.parameters.length) = some 3 := by decide +kernel
def kvX0_odds (fn : Nat) (k : Int32) (up : Int32) (dn : Int32) : Int32 := if (kvX0_isFact fn k) = 0 then (-1 : Int32) else (if (kvX0_areOdds up dn) = 0 then (-1 : Int32) else (1 : Int32))
def kvX0_odds_u (u : Nat → Int64) (fn : Nat) (k : Int32) (up : Int32) (dn : Int32) : Nat → Int64 := if (kvX0_isFact fn k) = 0 then u else (if (kvX0_areOdds up dn) = 0 then u else (kvX0_put_c0 12 u k up.toInt64))
def kvX0_odds_d (d : Nat → Int64) (fn : Nat) (k : Int32) (up : Int32) (dn : Int32) : Nat → Int64 := if (kvX0_isFact fn k) = 0 then d else (if (kvX0_areOdds up dn) = 0 then d else (kvX0_put_c0 12 d k dn.toInt64))
def kvX0_odds_lw (u : Nat → Int64) (d : Nat → Int64) (lw : Nat → Int64) (fn : Nat) (k : Int32) (up : Int32) (dn : Int32) : Nat → Int64 := if (kvX0_isFact fn k) = 0 then lw else (if (kvX0_areOdds up dn) = 0 then lw else (kl_whO (kvX0_put_c0 12 u k up.toInt64) (kvX0_put_c0 12 d k dn.toInt64) (0 : Int32) lw 6))
def kvX0_odds_uw (u : Nat → Int64) (d : Nat → Int64) (uw : Nat → Int64) (fn : Nat) (k : Int32) (up : Int32) (dn : Int32) : Nat → Int64 := if (kvX0_isFact fn k) = 0 then uw else (if (kvX0_areOdds up dn) = 0 then uw else (kl_whO (kvX0_put_c0 12 u k up.toInt64) (kvX0_put_c0 12 d k dn.toInt64) (nI 6) uw 6))
set_option maxHeartbeats 4000000 in
set_option maxRecDepth 100000 in
theorem kX0_odds (l : Launch) (D : va_G) (cJ : ClassId) (h a1 a2 a3 a4 a5 : Nat) (u d lw uw an : Nat → Int64) (fn qn : Nat) (sd : Int64) (k : Int32) (up : Int32) (dn : Int32) : MuI l yX0_odds wsX0_odds ({ frames := 4, cells := 0, slots := 0, locals := 99 } : Room) [.ref h, .int k, .int up, .int dn] D (xW cJ h a1 a2 a3 a4 a5 u d lw uw an (nI fn) (nI qn) sd) [(cJ, .long)] (xW cJ h a1 a2 a3 a4 a5 (kvX0_odds_u u fn k up dn) (kvX0_odds_d d fn k up dn) (kvX0_odds_lw u d lw fn k up dn) (kvX0_odds_uw u d uw fn k up dn) an (nI fn) (nI qn) sd) (kvX0_odds fn k up dn) := by
  intro sz
  refine oo_head (C := RX0) (cc := cX0_odds) (maxL := 4) (ret := (some .int)) (by decide) rfl rfl (Nat.le_of_ble_eq_true rfl) ?_
  intro p e s m below meth c hx hb hr hlocks hml hown hnm hts hpre ls hl
  have hl : lv_has ls 4 [(0, .ref h), (1, .int k), (2, .int up), (3, .int dn)] := hl
  obtain ⟨rfl, hP, hK, hD0⟩ := hpre
  have hD := hD0.self (sz := s.heap.size)
  have hA := oo_A (xW cJ h a1 a2 a3 a4 a5 u d lw uw an (nI fn) (nI qn) sd) s
  have hS : va_S (va_A (xW cJ h a1 a2 a3 a4 a5 u d lw uw an (nI fn) (nI qn) sd) s.heap.size) s.heap s.heap [] := va_S.rf
  have hin : ∀ w ∈ wsX00, w ∈ wsX0_odds := fun w h => List.mem_cons_of_mem _ (List.mem_append_right _ h)
  refine lv_aload_n hx hb dX0_odds_0 rfl (lv_at hl 0 rfl) ?_
  refine lv_iload_n hx hb dX0_odds_1 rfl (lv_at hl 1 rfl) ?_
  refine ro_calli (va_runV (As := [.int k]) (rest := []) ⟨hx, hb, hml, hown, hts⟩ (kX0_isFact l D cJ h a1 a2 a3 a4 a5 u d lw uw an fn qn sd k) (cwV 1 hts gX0_odds_X0_isFact rfl rfl rfl ok_X0_isFact ⟨Nat.le_of_ble_eq_true rfl, Nat.le_of_ble_eq_true rfl⟩) ⟨oo_blind, va_recv hK hP (ci := 0) (q0 := 0) rfl rfl, oo_ps hP hK [0, 1, 2, 3, 4, 5] rfl [0] rfl⟩ rfl rfl hl.1 rfl (lv_room (Nat.le_of_ble_eq_true rfl)) dX0_odds_2 ⟨Nat.le_of_ble_eq_true rfl, Nat.le_of_ble_eq_true rfl⟩) hP hS (fun H locs hP hS => ?_)
  refine lv_if_eq (tgt := 16) hx hb dX0_odds_5 (by decide) (fun c_5 => ?_) (fun c_5 => ?_)
  · refine lv_iconst (v := (-1 : Int32)) hx hb dX0_odds_16 (by decide) ?_
    have hP := Eq.mp (congrArg (fun z9 => va_P D vwCl (xW cJ h a1 a2 a3 a4 a5 z9 d lw uw an (nI fn) (nI qn) sd) H) (show u = kvX0_odds_u u fn k up dn from (by unfold kvX0_odds_u; rw [if_pos c_5]))) hP
    have hP := Eq.mp (congrArg (fun z9 => va_P D vwCl (xW cJ h a1 a2 a3 a4 a5 (kvX0_odds_u u fn k up dn) z9 lw uw an (nI fn) (nI qn) sd) H) (show d = kvX0_odds_d d fn k up dn from (by unfold kvX0_odds_d; rw [if_pos c_5]))) hP
    have hP := Eq.mp (congrArg (fun z9 => va_P D vwCl (xW cJ h a1 a2 a3 a4 a5 (kvX0_odds_u u fn k up dn) (kvX0_odds_d d fn k up dn) z9 uw an (nI fn) (nI qn) sd) H) (show lw = kvX0_odds_lw u d lw fn k up dn from (by unfold kvX0_odds_lw; rw [if_pos c_5]))) hP
    have hP := Eq.mp (congrArg (fun z9 => va_P D vwCl (xW cJ h a1 a2 a3 a4 a5 (kvX0_odds_u u fn k up dn) (kvX0_odds_d d fn k up dn) (kvX0_odds_lw u d lw fn k up dn) z9 an (nI fn) (nI qn) sd) H) (show uw = kvX0_odds_uw u d uw fn k up dn from (by unfold kvX0_odds_uw; rw [if_pos c_5]))) hP
    have hP : va_P D vwCl (xW cJ h a1 a2 a3 a4 a5 (kvX0_odds_u u fn k up dn) (kvX0_odds_d d fn k up dn) (kvX0_odds_lw u d lw fn k up dn) (kvX0_odds_uw u d uw fn k up dn) an (nI fn) (nI qn) sd) H := hP
    have hD : va_D _ (xW cJ h a1 a2 a3 a4 a5 (kvX0_odds_u u fn k up dn) (kvX0_odds_d d fn k up dn) (kvX0_odds_lw u d lw fn k up dn) (kvX0_odds_uw u d uw fn k up dn) an (nI fn) (nI qn) sd) := oo_Dre hD rfl
    exact mu_reti hx hb hr hlocks hP hD hS (by unfold kvX0_odds; rw [if_pos c_5]) dX0_odds_17
  · refine lv_iload_n hx hb dX0_odds_8 rfl (lv_at hl 2 rfl) ?_
    refine lv_iload_n hx hb dX0_odds_9 rfl (lv_at hl 3 rfl) ?_
    refine ro_calli (va_runS (As := [.int up, .int dn]) (rest := []) ⟨hx, hb, hml, hown, hts⟩ (kX0_areOdds l D up dn) (va_cwS 2 hts gX0_odds_X0_areOdds rfl rfl rfl ok_X0_areOdds ⟨Nat.le_of_ble_eq_true rfl, Nat.le_of_ble_eq_true rfl⟩) ⟨oo_blind, oo_ps hP hK [] rfl [] rfl⟩ rfl rfl hl.1 rfl (lv_room (Nat.le_of_ble_eq_true rfl)) dX0_odds_10 ⟨Nat.le_of_ble_eq_true rfl, Nat.le_of_ble_eq_true rfl⟩) hP hS (fun H locs hP hS => ?_)
    refine lv_if_ne (tgt := 18) hx hb dX0_odds_13 (by decide) (fun c_13 => ?_) (fun c_13 => ?_)
    · refine lv_aload_n hx hb dX0_odds_18 rfl (lv_at hl 0 rfl) ?_
      refine lv_iload_n hx hb dX0_odds_19 rfl (lv_at hl 1 rfl) ?_
      refine lv_iload_n hx hb dX0_odds_20 rfl (lv_at hl 2 rfl) ?_
      refine lv_i2l hx hb dX0_odds_21 rfl ?_
      refine lv_iload_n hx hb dX0_odds_22 rfl (lv_at hl 3 rfl) ?_
      refine lv_i2l hx hb dX0_odds_23 rfl ?_
      refine mu_callv (va_runV (As := [.int k, .long up.toInt64, .long dn.toInt64]) (rest := []) ⟨hx, hb, hml, hown, hts⟩ (kX0_putOdds l D cJ h a1 a2 a3 a4 a5 u d lw uw an fn qn sd k up.toInt64 dn.toInt64 _) (cwV 3 hts gX0_odds_X0_putOdds rfl rfl rfl ok_X0_putOdds ⟨Nat.le_of_ble_eq_true rfl, Nat.le_of_ble_eq_true rfl⟩) ⟨oo_blindM, va_recv hK hP (ci := 0) (q0 := 0) rfl rfl, oo_psM hP hD hK [0, 1, 2, 3, 4, 5] rfl rfl [0] rfl⟩ rfl rfl hl.1 rfl (lv_room (Nat.le_of_ble_eq_true rfl)) dX0_odds_24 ⟨Nat.le_of_ble_eq_true rfl, Nat.le_of_ble_eq_true rfl⟩) hP hD hS hA [0, 1, 2, 3, 4, 5] rfl rfl (fun H locs hP hD hS => ?_)
      have hP : va_P D vwCl (xW cJ h a1 a2 a3 a4 a5 (kvX0_put_c0 12 u k up.toInt64) (kvX0_put_c0 12 d k dn.toInt64) (kl_whO (kvX0_put_c0 12 u k up.toInt64) (kvX0_put_c0 12 d k dn.toInt64) (0 : Int32) lw 6) (kl_whO (kvX0_put_c0 12 u k up.toInt64) (kvX0_put_c0 12 d k dn.toInt64) (nI 6) uw 6) an (nI fn) (nI qn) sd) H := hP
      have hD : va_D _ (xW cJ h a1 a2 a3 a4 a5 (kvX0_put_c0 12 u k up.toInt64) (kvX0_put_c0 12 d k dn.toInt64) (kl_whO (kvX0_put_c0 12 u k up.toInt64) (kvX0_put_c0 12 d k dn.toInt64) (0 : Int32) lw 6) (kl_whO (kvX0_put_c0 12 u k up.toInt64) (kvX0_put_c0 12 d k dn.toInt64) (nI 6) uw 6) an (nI fn) (nI qn) sd) := hD
      refine lv_iconst (v := (1 : Int32)) hx hb dX0_odds_27 (by decide) ?_
      have hP := Eq.mp (congrArg (fun z9 => va_P D vwCl (xW cJ h a1 a2 a3 a4 a5 z9 (kvX0_put_c0 12 d k dn.toInt64) (kl_whO (kvX0_put_c0 12 u k up.toInt64) (kvX0_put_c0 12 d k dn.toInt64) (0 : Int32) lw 6) (kl_whO (kvX0_put_c0 12 u k up.toInt64) (kvX0_put_c0 12 d k dn.toInt64) (nI 6) uw 6) an (nI fn) (nI qn) sd) H) (show (kvX0_put_c0 12 u k up.toInt64) = kvX0_odds_u u fn k up dn from (by unfold kvX0_odds_u; rw [if_neg c_5, if_neg c_13]))) hP
      have hP := Eq.mp (congrArg (fun z9 => va_P D vwCl (xW cJ h a1 a2 a3 a4 a5 (kvX0_odds_u u fn k up dn) z9 (kl_whO (kvX0_put_c0 12 u k up.toInt64) (kvX0_put_c0 12 d k dn.toInt64) (0 : Int32) lw 6) (kl_whO (kvX0_put_c0 12 u k up.toInt64) (kvX0_put_c0 12 d k dn.toInt64) (nI 6) uw 6) an (nI fn) (nI qn) sd) H) (show (kvX0_put_c0 12 d k dn.toInt64) = kvX0_odds_d d fn k up dn from (by unfold kvX0_odds_d; rw [if_neg c_5, if_neg c_13]))) hP
      have hP := Eq.mp (congrArg (fun z9 => va_P D vwCl (xW cJ h a1 a2 a3 a4 a5 (kvX0_odds_u u fn k up dn) (kvX0_odds_d d fn k up dn) z9 (kl_whO (kvX0_put_c0 12 u k up.toInt64) (kvX0_put_c0 12 d k dn.toInt64) (nI 6) uw 6) an (nI fn) (nI qn) sd) H) (show kl_whO (kvX0_put_c0 12 u k up.toInt64) (kvX0_put_c0 12 d k dn.toInt64) (0 : Int32) lw 6 = kvX0_odds_lw u d lw fn k up dn from (by unfold kvX0_odds_lw; rw [if_neg c_5, if_neg c_13]))) hP
      have hP := Eq.mp (congrArg (fun z9 => va_P D vwCl (xW cJ h a1 a2 a3 a4 a5 (kvX0_odds_u u fn k up dn) (kvX0_odds_d d fn k up dn) (kvX0_odds_lw u d lw fn k up dn) z9 an (nI fn) (nI qn) sd) H) (show kl_whO (kvX0_put_c0 12 u k up.toInt64) (kvX0_put_c0 12 d k dn.toInt64) (nI 6) uw 6 = kvX0_odds_uw u d uw fn k up dn from (by unfold kvX0_odds_uw; rw [if_neg c_5, if_neg c_13]))) hP
      have hP : va_P D vwCl (xW cJ h a1 a2 a3 a4 a5 (kvX0_odds_u u fn k up dn) (kvX0_odds_d d fn k up dn) (kvX0_odds_lw u d lw fn k up dn) (kvX0_odds_uw u d uw fn k up dn) an (nI fn) (nI qn) sd) H := hP
      have hD : va_D _ (xW cJ h a1 a2 a3 a4 a5 (kvX0_odds_u u fn k up dn) (kvX0_odds_d d fn k up dn) (kvX0_odds_lw u d lw fn k up dn) (kvX0_odds_uw u d uw fn k up dn) an (nI fn) (nI qn) sd) := oo_Dre hD rfl
      exact mu_reti hx hb hr hlocks hP hD hS (by unfold kvX0_odds; rw [if_neg c_5, if_neg c_13]) dX0_odds_28
    · refine lv_iconst (v := (-1 : Int32)) hx hb dX0_odds_16 (by decide) ?_
      have hP := Eq.mp (congrArg (fun z9 => va_P D vwCl (xW cJ h a1 a2 a3 a4 a5 z9 d lw uw an (nI fn) (nI qn) sd) H) (show u = kvX0_odds_u u fn k up dn from (by unfold kvX0_odds_u; rw [if_neg c_5, if_pos c_13]))) hP
      have hP := Eq.mp (congrArg (fun z9 => va_P D vwCl (xW cJ h a1 a2 a3 a4 a5 (kvX0_odds_u u fn k up dn) z9 lw uw an (nI fn) (nI qn) sd) H) (show d = kvX0_odds_d d fn k up dn from (by unfold kvX0_odds_d; rw [if_neg c_5, if_pos c_13]))) hP
      have hP := Eq.mp (congrArg (fun z9 => va_P D vwCl (xW cJ h a1 a2 a3 a4 a5 (kvX0_odds_u u fn k up dn) (kvX0_odds_d d fn k up dn) z9 uw an (nI fn) (nI qn) sd) H) (show lw = kvX0_odds_lw u d lw fn k up dn from (by unfold kvX0_odds_lw; rw [if_neg c_5, if_pos c_13]))) hP
      have hP := Eq.mp (congrArg (fun z9 => va_P D vwCl (xW cJ h a1 a2 a3 a4 a5 (kvX0_odds_u u fn k up dn) (kvX0_odds_d d fn k up dn) (kvX0_odds_lw u d lw fn k up dn) z9 an (nI fn) (nI qn) sd) H) (show uw = kvX0_odds_uw u d uw fn k up dn from (by unfold kvX0_odds_uw; rw [if_neg c_5, if_pos c_13]))) hP
      have hP : va_P D vwCl (xW cJ h a1 a2 a3 a4 a5 (kvX0_odds_u u fn k up dn) (kvX0_odds_d d fn k up dn) (kvX0_odds_lw u d lw fn k up dn) (kvX0_odds_uw u d uw fn k up dn) an (nI fn) (nI qn) sd) H := hP
      have hD : va_D _ (xW cJ h a1 a2 a3 a4 a5 (kvX0_odds_u u fn k up dn) (kvX0_odds_d d fn k up dn) (kvX0_odds_lw u d lw fn k up dn) (kvX0_odds_uw u d uw fn k up dn) an (nI fn) (nI qn) sd) := oo_Dre hD rfl
      exact mu_reti hx hb hr hlocks hP hD hS (by unfold kvX0_odds; rw [if_neg c_5, if_pos c_13]) dX0_odds_17
def kl_setA (an : Nat → Int64) (qn : Nat) (w wo : Int32) : Nat → Nat → Int64
  | 0 => an
  | n + 1 => kvX0_put_c0 2560 (kl_setA an qn w wo n) (nI qn * nI 64 + nI n) (kvX0_setBlock (nI n) w wo)
def kl_someA (an : Nat → Int64) (qn : Nat) (fs lo hi : Int32) : Nat → Nat → Int64
  | 0 => an
  | n + 1 => kvX0_put_c0 2560 (kl_someA an qn fs lo hi n) (nI qn * nI 64 + nI n) (kvX0_someBlock (nI n) fs lo hi)
theorem ok_X0_set : yX0_set.cls = RX0 ∧ yX0_set.cls ≠ "java/lang/invoke/MethodHandle" ∧ yX0_set.cls ≠ "java/lang/invoke/VarHandle" ∧ (parseMethodDescriptor yX0_set.desc).map (fun d => d.parameters.length) = some 2 := by decide +kernel
def kvX0_set (fn : Nat) (qn : Nat) (w : Int32) (wo : Int32) : Int32 := if (kvX0_areFacts fn w) = 0 then (-1 : Int32) else (if (kvX0_areFacts fn wo) = 0 then (-1 : Int32) else (if (kvX0_isFull qn) = 0 then (kvX0_keepNext qn) else (-3 : Int32)))
def kvX0_set_an (an : Nat → Int64) (fn : Nat) (qn : Nat) (w : Int32) (wo : Int32) : Nat → Int64 := if (kvX0_areFacts fn w) = 0 then an else (if (kvX0_areFacts fn wo) = 0 then an else (if (kvX0_isFull qn) = 0 then (kl_setA an qn w wo 64) else an))
def kvX0_set_qc (fn : Nat) (qn : Nat) (w : Int32) (wo : Int32) : Int32 := if (kvX0_areFacts fn w) = 0 then (nI qn) else (if (kvX0_areFacts fn wo) = 0 then (nI qn) else (if (kvX0_isFull qn) = 0 then (nI (qn + 1)) else (nI qn)))
set_option maxHeartbeats 4000000 in
set_option maxRecDepth 100000 in
theorem kX0_set (l : Launch) (D : va_G) (cJ : ClassId) (h a1 a2 a3 a4 a5 : Nat) (u d lw uw an : Nat → Int64) (fn qn : Nat) (sd : Int64) (w : Int32) (wo : Int32) : MuI l yX0_set wsX0_set ({ frames := 2, cells := 0, slots := 0, locals := 46 } : Room) [.ref h, .int w, .int wo] D (xW cJ h a1 a2 a3 a4 a5 u d lw uw an (nI fn) (nI qn) sd) [(cJ, .long)] (xW cJ h a1 a2 a3 a4 a5 u d lw uw (kvX0_set_an an fn qn w wo) (nI fn) (kvX0_set_qc fn qn w wo) sd) (kvX0_set fn qn w wo) := by
  intro sz
  refine oo_head (C := RX0) (cc := cX0_set) (maxL := 4) (ret := (some .int)) (by decide) rfl rfl (Nat.le_of_ble_eq_true rfl) ?_
  intro p e s m below meth c hx hb hr hlocks hml hown hnm hts hpre ls hl
  have hl : lv_has ls 4 [(0, .ref h), (1, .int w), (2, .int wo)] := hl
  obtain ⟨rfl, hP, hK, hD0⟩ := hpre
  have hD := hD0.self (sz := s.heap.size)
  have hA := oo_A (xW cJ h a1 a2 a3 a4 a5 u d lw uw an (nI fn) (nI qn) sd) s
  have hS : va_S (va_A (xW cJ h a1 a2 a3 a4 a5 u d lw uw an (nI fn) (nI qn) sd) s.heap.size) s.heap s.heap [] := va_S.rf
  have hin : ∀ w ∈ wsX00, w ∈ wsX0_set := fun w h => List.mem_cons_of_mem _ (List.mem_append_right _ h)
  refine lv_aload_n hx hb dX0_set_0 rfl (lv_at hl 0 rfl) ?_
  refine lv_iload_n hx hb dX0_set_1 rfl (lv_at hl 1 rfl) ?_
  refine ro_calli (va_runV (As := [.int w]) (rest := []) ⟨hx, hb, hml, hown, hts⟩ (kX0_areFacts l D cJ h a1 a2 a3 a4 a5 u d lw uw an fn qn sd w) (cwV 1 hts gX0_set_X0_areFacts rfl rfl rfl ok_X0_areFacts ⟨Nat.le_of_ble_eq_true rfl, Nat.le_of_ble_eq_true rfl⟩) ⟨oo_blind, va_recv hK hP (ci := 0) (q0 := 0) rfl rfl, oo_ps hP hK [0, 1, 2, 3, 4, 5] rfl [0] rfl⟩ rfl rfl hl.1 rfl (lv_room (Nat.le_of_ble_eq_true rfl)) dX0_set_2 ⟨Nat.le_of_ble_eq_true rfl, Nat.le_of_ble_eq_true rfl⟩) hP hS (fun H locs hP hS => ?_)
  refine lv_if_eq (tgt := 16) hx hb dX0_set_5 (by decide) (fun c_5 => ?_) (fun c_5 => ?_)
  · refine lv_iconst (v := (-1 : Int32)) hx hb dX0_set_16 (by decide) ?_
    have hP := Eq.mp (congrArg (fun z9 => va_P D vwCl (xW cJ h a1 a2 a3 a4 a5 u d lw uw an (nI fn) z9 sd) H) (show nI qn = kvX0_set_qc fn qn w wo from (by unfold kvX0_set_qc; rw [if_pos c_5]))) hP
    have hP := Eq.mp (congrArg (fun z9 => va_P D vwCl (xW cJ h a1 a2 a3 a4 a5 u d lw uw z9 (nI fn) (kvX0_set_qc fn qn w wo) sd) H) (show an = kvX0_set_an an fn qn w wo from (by unfold kvX0_set_an; rw [if_pos c_5]))) hP
    have hP : va_P D vwCl (xW cJ h a1 a2 a3 a4 a5 u d lw uw (kvX0_set_an an fn qn w wo) (nI fn) (kvX0_set_qc fn qn w wo) sd) H := hP
    have hD : va_D _ (xW cJ h a1 a2 a3 a4 a5 u d lw uw (kvX0_set_an an fn qn w wo) (nI fn) (kvX0_set_qc fn qn w wo) sd) := oo_Dre hD rfl
    exact mu_reti hx hb hr hlocks hP hD hS (by unfold kvX0_set; rw [if_pos c_5]) dX0_set_17
  · refine lv_aload_n hx hb dX0_set_8 rfl (lv_at hl 0 rfl) ?_
    refine lv_iload_n hx hb dX0_set_9 rfl (lv_at hl 2 rfl) ?_
    refine ro_calli (va_runV (As := [.int wo]) (rest := []) ⟨hx, hb, hml, hown, hts⟩ (kX0_areFacts l D cJ h a1 a2 a3 a4 a5 u d lw uw an fn qn sd wo) (cwV 1 hts gX0_set_X0_areFacts rfl rfl rfl ok_X0_areFacts ⟨Nat.le_of_ble_eq_true rfl, Nat.le_of_ble_eq_true rfl⟩) ⟨oo_blind, va_recv hK hP (ci := 0) (q0 := 0) rfl rfl, oo_ps hP hK [0, 1, 2, 3, 4, 5] rfl [0] rfl⟩ rfl rfl hl.1 rfl (lv_room (Nat.le_of_ble_eq_true rfl)) dX0_set_10 ⟨Nat.le_of_ble_eq_true rfl, Nat.le_of_ble_eq_true rfl⟩) hP hS (fun H locs hP hS => ?_)
    refine lv_if_ne (tgt := 18) hx hb dX0_set_13 (by decide) (fun c_13 => ?_) (fun c_13 => ?_)
    · refine lv_aload_n hx hb dX0_set_18 rfl (lv_at hl 0 rfl) ?_
      refine ro_calli (va_runV (As := []) (rest := []) ⟨hx, hb, hml, hown, hts⟩ (kX0_isFull l D cJ h a1 a2 a3 a4 a5 u d lw uw an fn qn sd) (cwV 0 hts gX0_set_X0_isFull rfl rfl rfl ok_X0_isFull ⟨Nat.le_of_ble_eq_true rfl, Nat.le_of_ble_eq_true rfl⟩) ⟨oo_blind, va_recv hK hP (ci := 0) (q0 := 0) rfl rfl, oo_ps hP hK [0, 1, 2, 3, 4, 5] rfl [0] rfl⟩ rfl rfl hl.1 rfl (lv_room (Nat.le_of_ble_eq_true rfl)) dX0_set_19 ⟨Nat.le_of_ble_eq_true rfl, Nat.le_of_ble_eq_true rfl⟩) hP hS (fun H locs hP hS => ?_)
      refine lv_if_eq (tgt := 28) hx hb dX0_set_22 (by decide) (fun c_22 => ?_) (fun c_22 => ?_)
      · refine lv_iconst (v := nI 0) hx hb dX0_set_28 (by decide) ?_
        refine lv_istore_n (lv' := [(3, .int (nI 0)), (0, .ref h), (1, .int w), (2, .int wo)]) hx hb dX0_set_29 rfl hl (by decide) rfl (fun ls hl => ?_)
        have hl : lv_has ls 4 [(0, .ref h), (1, .int w), (2, .int wo), (3, .int (nI 0))] := lv_sub hl [1, 2, 3, 0] rfl
        have hP := Eq.mp (congrArg (fun z9 => va_P D vwCl (xW cJ h a1 a2 a3 a4 a5 u d lw uw z9 (nI fn) (nI qn) sd) H) (show an = kl_setA an qn w wo 0 from (by first | rfl | (simp only [kl_setA]; done) | (simp only [kl_setA]; rw [if_neg c_5, if_neg c_13, if_pos c_22])))) hP
        have hP : va_P D vwCl (xW cJ h a1 a2 a3 a4 a5 u d lw uw (kl_setA an qn w wo 0) (nI fn) (nI qn) sd) H := hP
        have hD : va_D _ (xW cJ h a1 a2 a3 a4 a5 u d lw uw (kl_setA an qn w wo 0) (nI fn) (nI qn) sd) := oo_Dre hD rfl
        refine oo_loop (N := 64) (fun n H locs ls => va_P D vwCl (xW cJ h a1 a2 a3 a4 a5 u d lw uw (kl_setA an qn w wo n) (nI fn) (nI qn) sd) H ∧ va_D (va_A (xW cJ h a1 a2 a3 a4 a5 u d lw uw an (nI fn) (nI qn) sd) s.heap.size) (xW cJ h a1 a2 a3 a4 a5 u d lw uw (kl_setA an qn w wo n) (nI fn) (nI qn) sd) ∧ va_S (va_A (xW cJ h a1 a2 a3 a4 a5 u d lw uw an (nI fn) (nI qn) sd) s.heap.size) s.heap H locs ∧ lv_has ls 4 [(0, .ref h), (1, .int w), (2, .int wo), (3, .int (nI n))]) ?_ ?_ 0 (Nat.zero_le _) ⟨hP, hD, hS, hl⟩
        · intro H locs ls hI
          obtain ⟨hP, hD, hS, hl⟩ := hI
          refine lv_iload_n hx hb dX0_set_30 rfl (lv_at hl 3 rfl) ?_
          refine lv_bipush (v := nI 64) hx hb dX0_set_31 (by decide) ?_
          refine lv_icmp_ge (tgt := 53) hx hb dX0_set_33 (by decide) (fun c_33 => ?_) (fun c_33 => ?_)
          · refine lv_aload_n hx hb dX0_set_53 rfl (lv_at hl 0 rfl) ?_
            refine mu_calli (va_runV (As := []) (rest := []) ⟨hx, hb, hml, hown, hts⟩ (kX0_keepNext l D cJ h a1 a2 a3 a4 a5 u d lw uw (kl_setA an qn w wo 64) fn qn sd _) (cwV 0 hts gX0_set_X0_keepNext rfl rfl rfl ok_X0_keepNext ⟨Nat.le_of_ble_eq_true rfl, Nat.le_of_ble_eq_true rfl⟩) ⟨oo_blindM, va_recv hK hP (ci := 0) (q0 := 0) rfl rfl, oo_psM hP hD hK [0, 1, 2, 3, 4, 5] rfl rfl [0] rfl⟩ rfl rfl hl.1 rfl (lv_room (Nat.le_of_ble_eq_true rfl)) dX0_set_54 ⟨Nat.le_of_ble_eq_true rfl, Nat.le_of_ble_eq_true rfl⟩) hP hD hS hA [0, 1, 2, 3, 4, 5] rfl rfl (fun H locs hP hD hS => ?_)
            have hP : va_P D vwCl (xW cJ h a1 a2 a3 a4 a5 u d lw uw (kl_setA an qn w wo 64) (nI fn) (nI (qn + 1)) sd) H := hP
            have hD : va_D _ (xW cJ h a1 a2 a3 a4 a5 u d lw uw (kl_setA an qn w wo 64) (nI fn) (nI (qn + 1)) sd) := hD
            have hP := Eq.mp (congrArg (fun z9 => va_P D vwCl (xW cJ h a1 a2 a3 a4 a5 u d lw uw (kl_setA an qn w wo 64) (nI fn) z9 sd) H) (show nI (qn + 1) = kvX0_set_qc fn qn w wo from (by unfold kvX0_set_qc; rw [if_neg c_5, if_neg c_13, if_pos c_22]))) hP
            have hP := Eq.mp (congrArg (fun z9 => va_P D vwCl (xW cJ h a1 a2 a3 a4 a5 u d lw uw z9 (nI fn) (kvX0_set_qc fn qn w wo) sd) H) (show (kl_setA an qn w wo 64) = kvX0_set_an an fn qn w wo from (by unfold kvX0_set_an; rw [if_neg c_5, if_neg c_13, if_pos c_22]))) hP
            have hP : va_P D vwCl (xW cJ h a1 a2 a3 a4 a5 u d lw uw (kvX0_set_an an fn qn w wo) (nI fn) (kvX0_set_qc fn qn w wo) sd) H := hP
            have hD : va_D _ (xW cJ h a1 a2 a3 a4 a5 u d lw uw (kvX0_set_an an fn qn w wo) (nI fn) (kvX0_set_qc fn qn w wo) sd) := oo_Dre hD rfl
            exact mu_reti hx hb hr hlocks hP hD hS (by unfold kvX0_set; rw [if_neg c_5, if_neg c_13, if_pos c_22]) dX0_set_57
          · exact absurd (nI_le (Nat.le_refl _) (by omega)) c_33
        · intro n hltn ihn H locs ls hI
          obtain ⟨hP, hD, hS, hl⟩ := hI
          refine lv_iload_n hx hb dX0_set_30 rfl (lv_at hl 3 rfl) ?_
          refine lv_bipush (v := nI 64) hx hb dX0_set_31 (by decide) ?_
          refine lv_icmp_ge (tgt := 53) hx hb dX0_set_33 (by decide) (fun c_33 => ?_) (fun c_33 => ?_)
          · exact absurd c_33 (nI_ge hltn (by omega))
          · refine lv_aload_n hx hb dX0_set_36 rfl (lv_at hl 0 rfl) ?_
            refine lv_iload_n hx hb dX0_set_37 rfl (lv_at hl 3 rfl) ?_
            refine lv_iload_n hx hb dX0_set_38 rfl (lv_at hl 3 rfl) ?_
            refine lv_iload_n hx hb dX0_set_39 rfl (lv_at hl 1 rfl) ?_
            refine lv_iload_n hx hb dX0_set_40 rfl (lv_at hl 2 rfl) ?_
            refine ro_calll (va_runS (As := [.int (nI n), .int w, .int wo]) (rest := [.int (nI n), .ref h]) ⟨hx, hb, hml, hown, hts⟩ (kX0_setBlock l D (nI n) w wo) (va_cwS 3 hts gX0_set_X0_setBlock rfl rfl rfl ok_X0_setBlock ⟨Nat.le_of_ble_eq_true rfl, Nat.le_of_ble_eq_true rfl⟩) ⟨oo_blind, oo_ps hP hK [] rfl [] rfl⟩ rfl rfl hl.1 rfl (lv_room (Nat.le_of_ble_eq_true rfl)) dX0_set_41 ⟨Nat.le_of_ble_eq_true rfl, Nat.le_of_ble_eq_true rfl⟩) hP hS (fun H locs hP hS => ?_)
            refine mu_callv (va_runV (As := [.int (nI n), .long (kvX0_setBlock (nI n) w wo)]) (rest := []) ⟨hx, hb, hml, hown, hts⟩ (kX0_putNextBlock l D cJ h a1 a2 a3 a4 a5 u d lw uw (kl_setA an qn w wo n) fn qn sd (nI n) (kvX0_setBlock (nI n) w wo) _) (cwV 2 hts gX0_set_X0_putNextBlock rfl rfl rfl ok_X0_putNextBlock ⟨Nat.le_of_ble_eq_true rfl, Nat.le_of_ble_eq_true rfl⟩) ⟨oo_blindM, va_recv hK hP (ci := 0) (q0 := 0) rfl rfl, oo_psM hP hD hK [0, 1, 2, 3, 4, 5] rfl rfl [0] rfl⟩ rfl rfl hl.1 rfl (lv_room (Nat.le_of_ble_eq_true rfl)) dX0_set_44 ⟨Nat.le_of_ble_eq_true rfl, Nat.le_of_ble_eq_true rfl⟩) hP hD hS hA [0, 1, 2, 3, 4, 5] rfl rfl (fun H locs hP hD hS => ?_)
            have hP : va_P D vwCl (xW cJ h a1 a2 a3 a4 a5 u d lw uw (kvX0_put_c0 2560 (kl_setA an qn w wo n) (((nI qn) * (nI 64)) + (nI n)) (kvX0_setBlock (nI n) w wo)) (nI fn) (nI qn) sd) H := hP
            have hD : va_D _ (xW cJ h a1 a2 a3 a4 a5 u d lw uw (kvX0_put_c0 2560 (kl_setA an qn w wo n) (((nI qn) * (nI 64)) + (nI n)) (kvX0_setBlock (nI n) w wo)) (nI fn) (nI qn) sd) := hD
            refine lv_iinc (v := nI (n + 1)) (lv' := [(3, .int (nI (n + 1))), (0, .ref h), (1, .int w), (2, .int wo)]) hx hb dX0_set_47 hl (k := 3) rfl (oo_inc n 1) (by decide) rfl (fun ls hl => ?_)
            refine lv_goto (tgt := 30) hx hb dX0_set_50 (by decide) ?_
            have hl : lv_has ls 4 [(0, .ref h), (1, .int w), (2, .int wo), (3, .int (nI (n + 1)))] := lv_sub hl [1, 2, 3, 0] rfl
            have hP := Eq.mp (congrArg (fun z9 => va_P D vwCl (xW cJ h a1 a2 a3 a4 a5 u d lw uw z9 (nI fn) (nI qn) sd) H) (show kvX0_put_c0 2560 (kl_setA an qn w wo n) (((nI qn) * (nI 64)) + (nI n)) (kvX0_setBlock (nI n) w wo) = kl_setA an qn w wo (n + 1) from (by first | rfl | (simp only [kl_setA]; done)))) hP
            have hP : va_P D vwCl (xW cJ h a1 a2 a3 a4 a5 u d lw uw (kl_setA an qn w wo (n + 1)) (nI fn) (nI qn) sd) H := hP
            have hD : va_D _ (xW cJ h a1 a2 a3 a4 a5 u d lw uw (kl_setA an qn w wo (n + 1)) (nI fn) (nI qn) sd) := oo_Dre hD rfl
            exact ihn _ _ _ ⟨hP, hD, hS, hl⟩
      · refine lv_bipush (v := (-3 : Int32)) hx hb dX0_set_25 (by decide) ?_
        have hP := Eq.mp (congrArg (fun z9 => va_P D vwCl (xW cJ h a1 a2 a3 a4 a5 u d lw uw an (nI fn) z9 sd) H) (show nI qn = kvX0_set_qc fn qn w wo from (by unfold kvX0_set_qc; rw [if_neg c_5, if_neg c_13, if_neg c_22]))) hP
        have hP := Eq.mp (congrArg (fun z9 => va_P D vwCl (xW cJ h a1 a2 a3 a4 a5 u d lw uw z9 (nI fn) (kvX0_set_qc fn qn w wo) sd) H) (show an = kvX0_set_an an fn qn w wo from (by unfold kvX0_set_an; rw [if_neg c_5, if_neg c_13, if_neg c_22]))) hP
        have hP : va_P D vwCl (xW cJ h a1 a2 a3 a4 a5 u d lw uw (kvX0_set_an an fn qn w wo) (nI fn) (kvX0_set_qc fn qn w wo) sd) H := hP
        have hD : va_D _ (xW cJ h a1 a2 a3 a4 a5 u d lw uw (kvX0_set_an an fn qn w wo) (nI fn) (kvX0_set_qc fn qn w wo) sd) := oo_Dre hD rfl
        exact mu_reti hx hb hr hlocks hP hD hS (by unfold kvX0_set; rw [if_neg c_5, if_neg c_13, if_neg c_22]) dX0_set_27
    · refine lv_iconst (v := (-1 : Int32)) hx hb dX0_set_16 (by decide) ?_
      have hP := Eq.mp (congrArg (fun z9 => va_P D vwCl (xW cJ h a1 a2 a3 a4 a5 u d lw uw an (nI fn) z9 sd) H) (show nI qn = kvX0_set_qc fn qn w wo from (by unfold kvX0_set_qc; rw [if_neg c_5, if_pos c_13]))) hP
      have hP := Eq.mp (congrArg (fun z9 => va_P D vwCl (xW cJ h a1 a2 a3 a4 a5 u d lw uw z9 (nI fn) (kvX0_set_qc fn qn w wo) sd) H) (show an = kvX0_set_an an fn qn w wo from (by unfold kvX0_set_an; rw [if_neg c_5, if_pos c_13]))) hP
      have hP : va_P D vwCl (xW cJ h a1 a2 a3 a4 a5 u d lw uw (kvX0_set_an an fn qn w wo) (nI fn) (kvX0_set_qc fn qn w wo) sd) H := hP
      have hD : va_D _ (xW cJ h a1 a2 a3 a4 a5 u d lw uw (kvX0_set_an an fn qn w wo) (nI fn) (kvX0_set_qc fn qn w wo) sd) := oo_Dre hD rfl
      exact mu_reti hx hb hr hlocks hP hD hS (by unfold kvX0_set; rw [if_neg c_5, if_pos c_13]) dX0_set_17
theorem ok_X0_some : yX0_some.cls = RX0 ∧ yX0_some.cls ≠ "java/lang/invoke/MethodHandle" ∧ yX0_some.cls ≠ "java/lang/invoke/VarHandle" ∧ (parseMethodDescriptor yX0_some.desc).map (fun d => d.parameters.length) = some 3 := by decide +kernel
def kvX0_some (fn : Nat) (qn : Nat) (fs : Int32) : Int32 := if (kvX0_areFacts fn fs) = 0 then (-1 : Int32) else (if (kvX0_isFull qn) = 0 then (kvX0_keepNext qn) else (-3 : Int32))
def kvX0_some_an (an : Nat → Int64) (fn : Nat) (qn : Nat) (fs : Int32) (lo : Int32) (hi : Int32) : Nat → Int64 := if (kvX0_areFacts fn fs) = 0 then an else (if (kvX0_isFull qn) = 0 then (kl_someA an qn fs lo hi 64) else an)
def kvX0_some_qc (fn : Nat) (qn : Nat) (fs : Int32) : Int32 := if (kvX0_areFacts fn fs) = 0 then (nI qn) else (if (kvX0_isFull qn) = 0 then (nI (qn + 1)) else (nI qn))
set_option maxHeartbeats 4000000 in
set_option maxRecDepth 100000 in
theorem kX0_some (l : Launch) (D : va_G) (cJ : ClassId) (h a1 a2 a3 a4 a5 : Nat) (u d lw uw an : Nat → Int64) (fn qn : Nat) (sd : Int64) (fs : Int32) (lo : Int32) (hi : Int32) : MuI l yX0_some wsX0_some ({ frames := 2, cells := 0, slots := 0, locals := 47 } : Room) [.ref h, .int fs, .int lo, .int hi] D (xW cJ h a1 a2 a3 a4 a5 u d lw uw an (nI fn) (nI qn) sd) [(cJ, .long)] (xW cJ h a1 a2 a3 a4 a5 u d lw uw (kvX0_some_an an fn qn fs lo hi) (nI fn) (kvX0_some_qc fn qn fs) sd) (kvX0_some fn qn fs) := by
  intro sz
  refine oo_head (C := RX0) (cc := cX0_some) (maxL := 5) (ret := (some .int)) (by decide) rfl rfl (Nat.le_of_ble_eq_true rfl) ?_
  intro p e s m below meth c hx hb hr hlocks hml hown hnm hts hpre ls hl
  have hl : lv_has ls 5 [(0, .ref h), (1, .int fs), (2, .int lo), (3, .int hi)] := hl
  obtain ⟨rfl, hP, hK, hD0⟩ := hpre
  have hD := hD0.self (sz := s.heap.size)
  have hA := oo_A (xW cJ h a1 a2 a3 a4 a5 u d lw uw an (nI fn) (nI qn) sd) s
  have hS : va_S (va_A (xW cJ h a1 a2 a3 a4 a5 u d lw uw an (nI fn) (nI qn) sd) s.heap.size) s.heap s.heap [] := va_S.rf
  have hin : ∀ w ∈ wsX00, w ∈ wsX0_some := fun w h => List.mem_cons_of_mem _ (List.mem_append_right _ h)
  refine lv_aload_n hx hb dX0_some_0 rfl (lv_at hl 0 rfl) ?_
  refine lv_iload_n hx hb dX0_some_1 rfl (lv_at hl 1 rfl) ?_
  refine ro_calli (va_runV (As := [.int fs]) (rest := []) ⟨hx, hb, hml, hown, hts⟩ (kX0_areFacts l D cJ h a1 a2 a3 a4 a5 u d lw uw an fn qn sd fs) (cwV 1 hts gX0_some_X0_areFacts rfl rfl rfl ok_X0_areFacts ⟨Nat.le_of_ble_eq_true rfl, Nat.le_of_ble_eq_true rfl⟩) ⟨oo_blind, va_recv hK hP (ci := 0) (q0 := 0) rfl rfl, oo_ps hP hK [0, 1, 2, 3, 4, 5] rfl [0] rfl⟩ rfl rfl hl.1 rfl (lv_room (Nat.le_of_ble_eq_true rfl)) dX0_some_2 ⟨Nat.le_of_ble_eq_true rfl, Nat.le_of_ble_eq_true rfl⟩) hP hS (fun H locs hP hS => ?_)
  refine lv_if_ne (tgt := 10) hx hb dX0_some_5 (by decide) (fun c_5 => ?_) (fun c_5 => ?_)
  · refine lv_aload_n hx hb dX0_some_10 rfl (lv_at hl 0 rfl) ?_
    refine ro_calli (va_runV (As := []) (rest := []) ⟨hx, hb, hml, hown, hts⟩ (kX0_isFull l D cJ h a1 a2 a3 a4 a5 u d lw uw an fn qn sd) (cwV 0 hts gX0_some_X0_isFull rfl rfl rfl ok_X0_isFull ⟨Nat.le_of_ble_eq_true rfl, Nat.le_of_ble_eq_true rfl⟩) ⟨oo_blind, va_recv hK hP (ci := 0) (q0 := 0) rfl rfl, oo_ps hP hK [0, 1, 2, 3, 4, 5] rfl [0] rfl⟩ rfl rfl hl.1 rfl (lv_room (Nat.le_of_ble_eq_true rfl)) dX0_some_11 ⟨Nat.le_of_ble_eq_true rfl, Nat.le_of_ble_eq_true rfl⟩) hP hS (fun H locs hP hS => ?_)
    refine lv_if_eq (tgt := 20) hx hb dX0_some_14 (by decide) (fun c_14 => ?_) (fun c_14 => ?_)
    · refine lv_iconst (v := nI 0) hx hb dX0_some_20 (by decide) ?_
      refine lv_istore (lv' := [(4, .int (nI 0)), (0, .ref h), (1, .int fs), (2, .int lo), (3, .int hi)]) hx hb dX0_some_21 hl (by decide) rfl (fun ls hl => ?_)
      have hl : lv_has ls 5 [(0, .ref h), (1, .int fs), (2, .int lo), (3, .int hi), (4, .int (nI 0))] := lv_sub hl [1, 2, 3, 4, 0] rfl
      have hP := Eq.mp (congrArg (fun z9 => va_P D vwCl (xW cJ h a1 a2 a3 a4 a5 u d lw uw z9 (nI fn) (nI qn) sd) H) (show an = kl_someA an qn fs lo hi 0 from (by first | rfl | (simp only [kl_someA]; done) | (simp only [kl_someA]; rw [if_neg c_5, if_pos c_14])))) hP
      have hP : va_P D vwCl (xW cJ h a1 a2 a3 a4 a5 u d lw uw (kl_someA an qn fs lo hi 0) (nI fn) (nI qn) sd) H := hP
      have hD : va_D _ (xW cJ h a1 a2 a3 a4 a5 u d lw uw (kl_someA an qn fs lo hi 0) (nI fn) (nI qn) sd) := oo_Dre hD rfl
      refine oo_loop (N := 64) (fun n H locs ls => va_P D vwCl (xW cJ h a1 a2 a3 a4 a5 u d lw uw (kl_someA an qn fs lo hi n) (nI fn) (nI qn) sd) H ∧ va_D (va_A (xW cJ h a1 a2 a3 a4 a5 u d lw uw an (nI fn) (nI qn) sd) s.heap.size) (xW cJ h a1 a2 a3 a4 a5 u d lw uw (kl_someA an qn fs lo hi n) (nI fn) (nI qn) sd) ∧ va_S (va_A (xW cJ h a1 a2 a3 a4 a5 u d lw uw an (nI fn) (nI qn) sd) s.heap.size) s.heap H locs ∧ lv_has ls 5 [(0, .ref h), (1, .int fs), (2, .int lo), (3, .int hi), (4, .int (nI n))]) ?_ ?_ 0 (Nat.zero_le _) ⟨hP, hD, hS, hl⟩
      · intro H locs ls hI
        obtain ⟨hP, hD, hS, hl⟩ := hI
        refine lv_iload hx hb dX0_some_23 (lv_at hl 4 rfl) ?_
        refine lv_bipush (v := nI 64) hx hb dX0_some_25 (by decide) ?_
        refine lv_icmp_ge (tgt := 50) hx hb dX0_some_27 (by decide) (fun c_27 => ?_) (fun c_27 => ?_)
        · refine lv_aload_n hx hb dX0_some_50 rfl (lv_at hl 0 rfl) ?_
          refine mu_calli (va_runV (As := []) (rest := []) ⟨hx, hb, hml, hown, hts⟩ (kX0_keepNext l D cJ h a1 a2 a3 a4 a5 u d lw uw (kl_someA an qn fs lo hi 64) fn qn sd _) (cwV 0 hts gX0_some_X0_keepNext rfl rfl rfl ok_X0_keepNext ⟨Nat.le_of_ble_eq_true rfl, Nat.le_of_ble_eq_true rfl⟩) ⟨oo_blindM, va_recv hK hP (ci := 0) (q0 := 0) rfl rfl, oo_psM hP hD hK [0, 1, 2, 3, 4, 5] rfl rfl [0] rfl⟩ rfl rfl hl.1 rfl (lv_room (Nat.le_of_ble_eq_true rfl)) dX0_some_51 ⟨Nat.le_of_ble_eq_true rfl, Nat.le_of_ble_eq_true rfl⟩) hP hD hS hA [0, 1, 2, 3, 4, 5] rfl rfl (fun H locs hP hD hS => ?_)
          have hP : va_P D vwCl (xW cJ h a1 a2 a3 a4 a5 u d lw uw (kl_someA an qn fs lo hi 64) (nI fn) (nI (qn + 1)) sd) H := hP
          have hD : va_D _ (xW cJ h a1 a2 a3 a4 a5 u d lw uw (kl_someA an qn fs lo hi 64) (nI fn) (nI (qn + 1)) sd) := hD
          have hP := Eq.mp (congrArg (fun z9 => va_P D vwCl (xW cJ h a1 a2 a3 a4 a5 u d lw uw (kl_someA an qn fs lo hi 64) (nI fn) z9 sd) H) (show nI (qn + 1) = kvX0_some_qc fn qn fs from (by unfold kvX0_some_qc; rw [if_neg c_5, if_pos c_14]))) hP
          have hP := Eq.mp (congrArg (fun z9 => va_P D vwCl (xW cJ h a1 a2 a3 a4 a5 u d lw uw z9 (nI fn) (kvX0_some_qc fn qn fs) sd) H) (show (kl_someA an qn fs lo hi 64) = kvX0_some_an an fn qn fs lo hi from (by unfold kvX0_some_an; rw [if_neg c_5, if_pos c_14]))) hP
          have hP : va_P D vwCl (xW cJ h a1 a2 a3 a4 a5 u d lw uw (kvX0_some_an an fn qn fs lo hi) (nI fn) (kvX0_some_qc fn qn fs) sd) H := hP
          have hD : va_D _ (xW cJ h a1 a2 a3 a4 a5 u d lw uw (kvX0_some_an an fn qn fs lo hi) (nI fn) (kvX0_some_qc fn qn fs) sd) := oo_Dre hD rfl
          exact mu_reti hx hb hr hlocks hP hD hS (by unfold kvX0_some; rw [if_neg c_5, if_pos c_14]) dX0_some_54
        · exact absurd (nI_le (Nat.le_refl _) (by omega)) c_27
      · intro n hltn ihn H locs ls hI
        obtain ⟨hP, hD, hS, hl⟩ := hI
        refine lv_iload hx hb dX0_some_23 (lv_at hl 4 rfl) ?_
        refine lv_bipush (v := nI 64) hx hb dX0_some_25 (by decide) ?_
        refine lv_icmp_ge (tgt := 50) hx hb dX0_some_27 (by decide) (fun c_27 => ?_) (fun c_27 => ?_)
        · exact absurd c_27 (nI_ge hltn (by omega))
        · refine lv_aload_n hx hb dX0_some_30 rfl (lv_at hl 0 rfl) ?_
          refine lv_iload hx hb dX0_some_31 (lv_at hl 4 rfl) ?_
          refine lv_iload hx hb dX0_some_33 (lv_at hl 4 rfl) ?_
          refine lv_iload_n hx hb dX0_some_35 rfl (lv_at hl 1 rfl) ?_
          refine lv_iload_n hx hb dX0_some_36 rfl (lv_at hl 2 rfl) ?_
          refine lv_iload_n hx hb dX0_some_37 rfl (lv_at hl 3 rfl) ?_
          refine ro_calll (va_runS (As := [.int (nI n), .int fs, .int lo, .int hi]) (rest := [.int (nI n), .ref h]) ⟨hx, hb, hml, hown, hts⟩ (kX0_someBlock l D (nI n) fs lo hi) (va_cwS 4 hts gX0_some_X0_someBlock rfl rfl rfl ok_X0_someBlock ⟨Nat.le_of_ble_eq_true rfl, Nat.le_of_ble_eq_true rfl⟩) ⟨oo_blind, oo_ps hP hK [] rfl [] rfl⟩ rfl rfl hl.1 rfl (lv_room (Nat.le_of_ble_eq_true rfl)) dX0_some_38 ⟨Nat.le_of_ble_eq_true rfl, Nat.le_of_ble_eq_true rfl⟩) hP hS (fun H locs hP hS => ?_)
          refine mu_callv (va_runV (As := [.int (nI n), .long (kvX0_someBlock (nI n) fs lo hi)]) (rest := []) ⟨hx, hb, hml, hown, hts⟩ (kX0_putNextBlock l D cJ h a1 a2 a3 a4 a5 u d lw uw (kl_someA an qn fs lo hi n) fn qn sd (nI n) (kvX0_someBlock (nI n) fs lo hi) _) (cwV 2 hts gX0_some_X0_putNextBlock rfl rfl rfl ok_X0_putNextBlock ⟨Nat.le_of_ble_eq_true rfl, Nat.le_of_ble_eq_true rfl⟩) ⟨oo_blindM, va_recv hK hP (ci := 0) (q0 := 0) rfl rfl, oo_psM hP hD hK [0, 1, 2, 3, 4, 5] rfl rfl [0] rfl⟩ rfl rfl hl.1 rfl (lv_room (Nat.le_of_ble_eq_true rfl)) dX0_some_41 ⟨Nat.le_of_ble_eq_true rfl, Nat.le_of_ble_eq_true rfl⟩) hP hD hS hA [0, 1, 2, 3, 4, 5] rfl rfl (fun H locs hP hD hS => ?_)
          have hP : va_P D vwCl (xW cJ h a1 a2 a3 a4 a5 u d lw uw (kvX0_put_c0 2560 (kl_someA an qn fs lo hi n) (((nI qn) * (nI 64)) + (nI n)) (kvX0_someBlock (nI n) fs lo hi)) (nI fn) (nI qn) sd) H := hP
          have hD : va_D _ (xW cJ h a1 a2 a3 a4 a5 u d lw uw (kvX0_put_c0 2560 (kl_someA an qn fs lo hi n) (((nI qn) * (nI 64)) + (nI n)) (kvX0_someBlock (nI n) fs lo hi)) (nI fn) (nI qn) sd) := hD
          refine lv_iinc (v := nI (n + 1)) (lv' := [(4, .int (nI (n + 1))), (0, .ref h), (1, .int fs), (2, .int lo), (3, .int hi)]) hx hb dX0_some_44 hl (k := 4) rfl (oo_inc n 1) (by decide) rfl (fun ls hl => ?_)
          refine lv_goto (tgt := 23) hx hb dX0_some_47 (by decide) ?_
          have hl : lv_has ls 5 [(0, .ref h), (1, .int fs), (2, .int lo), (3, .int hi), (4, .int (nI (n + 1)))] := lv_sub hl [1, 2, 3, 4, 0] rfl
          have hP := Eq.mp (congrArg (fun z9 => va_P D vwCl (xW cJ h a1 a2 a3 a4 a5 u d lw uw z9 (nI fn) (nI qn) sd) H) (show kvX0_put_c0 2560 (kl_someA an qn fs lo hi n) (((nI qn) * (nI 64)) + (nI n)) (kvX0_someBlock (nI n) fs lo hi) = kl_someA an qn fs lo hi (n + 1) from (by first | rfl | (simp only [kl_someA]; done)))) hP
          have hP : va_P D vwCl (xW cJ h a1 a2 a3 a4 a5 u d lw uw (kl_someA an qn fs lo hi (n + 1)) (nI fn) (nI qn) sd) H := hP
          have hD : va_D _ (xW cJ h a1 a2 a3 a4 a5 u d lw uw (kl_someA an qn fs lo hi (n + 1)) (nI fn) (nI qn) sd) := oo_Dre hD rfl
          exact ihn _ _ _ ⟨hP, hD, hS, hl⟩
    · refine lv_bipush (v := (-3 : Int32)) hx hb dX0_some_17 (by decide) ?_
      have hP := Eq.mp (congrArg (fun z9 => va_P D vwCl (xW cJ h a1 a2 a3 a4 a5 u d lw uw an (nI fn) z9 sd) H) (show nI qn = kvX0_some_qc fn qn fs from (by unfold kvX0_some_qc; rw [if_neg c_5, if_neg c_14]))) hP
      have hP := Eq.mp (congrArg (fun z9 => va_P D vwCl (xW cJ h a1 a2 a3 a4 a5 u d lw uw z9 (nI fn) (kvX0_some_qc fn qn fs) sd) H) (show an = kvX0_some_an an fn qn fs lo hi from (by unfold kvX0_some_an; rw [if_neg c_5, if_neg c_14]))) hP
      have hP : va_P D vwCl (xW cJ h a1 a2 a3 a4 a5 u d lw uw (kvX0_some_an an fn qn fs lo hi) (nI fn) (kvX0_some_qc fn qn fs) sd) H := hP
      have hD : va_D _ (xW cJ h a1 a2 a3 a4 a5 u d lw uw (kvX0_some_an an fn qn fs lo hi) (nI fn) (kvX0_some_qc fn qn fs) sd) := oo_Dre hD rfl
      exact mu_reti hx hb hr hlocks hP hD hS (by unfold kvX0_some; rw [if_neg c_5, if_neg c_14]) dX0_some_19
  · refine lv_iconst (v := (-1 : Int32)) hx hb dX0_some_8 (by decide) ?_
    have hP := Eq.mp (congrArg (fun z9 => va_P D vwCl (xW cJ h a1 a2 a3 a4 a5 u d lw uw an (nI fn) z9 sd) H) (show nI qn = kvX0_some_qc fn qn fs from (by unfold kvX0_some_qc; rw [if_pos c_5]))) hP
    have hP := Eq.mp (congrArg (fun z9 => va_P D vwCl (xW cJ h a1 a2 a3 a4 a5 u d lw uw z9 (nI fn) (kvX0_some_qc fn qn fs) sd) H) (show an = kvX0_some_an an fn qn fs lo hi from (by unfold kvX0_some_an; rw [if_pos c_5]))) hP
    have hP : va_P D vwCl (xW cJ h a1 a2 a3 a4 a5 u d lw uw (kvX0_some_an an fn qn fs lo hi) (nI fn) (kvX0_some_qc fn qn fs) sd) H := hP
    have hD : va_D _ (xW cJ h a1 a2 a3 a4 a5 u d lw uw (kvX0_some_an an fn qn fs lo hi) (nI fn) (kvX0_some_qc fn qn fs) sd) := oo_Dre hD rfl
    exact mu_reti hx hb hr hlocks hP hD hS (by unfold kvX0_some; rw [if_pos c_5]) dX0_some_9
theorem ok_X0_joined : yX0_joined.cls ≠ "java/lang/invoke/MethodHandle" ∧ yX0_joined.cls ≠ "java/lang/invoke/VarHandle" ∧ (parseMethodDescriptor yX0_joined.desc).map (fun d => d.parameters.length) = some 3 := by decide +kernel
def kvX0_joined (op : Int32) (x y : Int64) : Int64 := if op = 0 then x &&& y else if op = 1 then x ||| y else if op = 2 then x ^^^ y else x ^^^ (-1)
theorem oo_out02 {x : Int32} (h0 : ¬ x = 0) (h1 : ¬ x = 1) (h2 : ¬ x = 2) : x.toInt < 0 ∨ 2 < x.toInt := by
  have g0 : ¬ x.toInt = 0 := lv_neT h0 rfl
  have g1 : ¬ x.toInt = 1 := lv_neT h1 rfl
  have g2 : ¬ x.toInt = 2 := lv_neT h2 rfl
  omega
set_option maxHeartbeats 4000000 in
set_option maxRecDepth 100000 in
theorem kX0_joined (l : Launch) (D : va_G) (op : Int32) (x y : Int64) : RoL l yX0_joined wsX0_joined ({ frames := 0, cells := 0, slots := 0, locals := 0 } : Room) [.int op, .long x, .long y] D ([]) [] (kvX0_joined op x y) := by
  refine oo_head (C := RX0) (cc := cX0_joined) (maxL := 5) (ret := (some .long)) (by decide) rfl rfl (Nat.le_of_ble_eq_true rfl) ?_
  intro p e s m below meth c hx hb hr hlocks hml hown hnm hts hpre ls hl
  have hl : lv_has ls 5 [(0, .int op), (1, .long x), (3, .long y)] := hl
  obtain ⟨hP, hK⟩ := hpre
  have hS : va_S oo_N s.heap s.heap [] := va_S.rf
  refine lv_iload_n hx hb dX0_joined_0 rfl (lv_at hl 0 rfl) ?_
  by_cases h0 : op = 0
  · subst h0
    refine lv_tableIn (off := 27) (tgt := 28) hx hb dX0_joined_1 (by decide) (by decide) (by decide) (by decide) ?_
    refine lv_lload_n hx hb dX0_joined_28 rfl (lv_at hl 1 rfl) ?_
    refine lv_lload_n hx hb dX0_joined_29 rfl (lv_at hl 2 rfl) ?_
    refine lv_land hx hb dX0_joined_30 ?_
    exact ro_retl hx hb hr hlocks hS rfl dX0_joined_31
  by_cases h1 : op = 1
  · subst h1
    refine lv_tableIn (off := 31) (tgt := 32) hx hb dX0_joined_1 (by decide) (by decide) (by decide) (by decide) ?_
    refine lv_lload_n hx hb dX0_joined_32 rfl (lv_at hl 1 rfl) ?_
    refine lv_lload_n hx hb dX0_joined_33 rfl (lv_at hl 2 rfl) ?_
    refine lv_lor hx hb dX0_joined_34 ?_
    exact ro_retl hx hb hr hlocks hS rfl dX0_joined_35
  by_cases h2 : op = 2
  · subst h2
    refine lv_tableIn (off := 35) (tgt := 36) hx hb dX0_joined_1 (by decide) (by decide) (by decide) (by decide) ?_
    refine lv_lload_n hx hb dX0_joined_36 rfl (lv_at hl 1 rfl) ?_
    refine lv_lload_n hx hb dX0_joined_37 rfl (lv_at hl 2 rfl) ?_
    refine lv_lxor hx hb dX0_joined_38 ?_
    exact ro_retl hx hb hr hlocks hS rfl dX0_joined_39
  · refine lv_tableOut (tgt := 40) hx hb dX0_joined_1 (oo_out02 h0 h1 h2) (by decide) ?_
    refine lv_lload_n hx hb dX0_joined_40 rfl (lv_at hl 1 rfl) ?_
    refine lv_ldc2 hx hb hown (hts (.constantLong RX0 98 (-1)) (by decide +kernel)) dX0_joined_41 ?_
    refine lv_lxor hx hb dX0_joined_44 ?_
    exact ro_retl hx hb hr hlocks hS (by unfold kvX0_joined; rw [if_neg h0, if_neg h1, if_neg h2]) dX0_joined_45
def kl_joinA (an : Nat → Int64) (qn : Nat) (op q r : Int32) : Nat → Nat → Int64
  | 0 => an
  | n + 1 => kvX0_put_c0 2560 (kl_joinA an qn op q r n) (nI qn * nI 64 + nI n) (kvX0_joined op (kvX0_blockOf (kl_joinA an qn op q r n) qn q (nI n)) (kvX0_blockOf (kl_joinA an qn op q r n) qn r (nI n)))
theorem ok_X0_join : yX0_join.cls = RX0 ∧ yX0_join.cls ≠ "java/lang/invoke/MethodHandle" ∧ yX0_join.cls ≠ "java/lang/invoke/VarHandle" ∧ (parseMethodDescriptor yX0_join.desc).map (fun d => d.parameters.length) = some 3 := by decide +kernel
def kvX0_join (qn : Nat) (op : Int32) (q : Int32) (r : Int32) : Int32 := if op < 0 then (-1 : Int32) else (if (3 : Int32) < op then (-1 : Int32) else (if (kvX0_isQuestion qn q) = 0 then (-1 : Int32) else (if op = (3 : Int32) then (if (kvX0_isFull qn) = 0 then (kvX0_keepNext qn) else (-3 : Int32)) else (if (kvX0_isQuestion qn r) = 0 then (-1 : Int32) else (if (kvX0_isFull qn) = 0 then (kvX0_keepNext qn) else (-3 : Int32))))))
def kvX0_join_an (an : Nat → Int64) (qn : Nat) (op : Int32) (q : Int32) (r : Int32) : Nat → Int64 := if op < 0 then an else (if (3 : Int32) < op then an else (if (kvX0_isQuestion qn q) = 0 then an else (if op = (3 : Int32) then (if (kvX0_isFull qn) = 0 then (kl_joinA an qn op q r 64) else an) else (if (kvX0_isQuestion qn r) = 0 then an else (if (kvX0_isFull qn) = 0 then (kl_joinA an qn op q r 64) else an)))))
def kvX0_join_qc (qn : Nat) (op : Int32) (q : Int32) (r : Int32) : Int32 := if op < 0 then (nI qn) else (if (3 : Int32) < op then (nI qn) else (if (kvX0_isQuestion qn q) = 0 then (nI qn) else (if op = (3 : Int32) then (if (kvX0_isFull qn) = 0 then (nI (qn + 1)) else (nI qn)) else (if (kvX0_isQuestion qn r) = 0 then (nI qn) else (if (kvX0_isFull qn) = 0 then (nI (qn + 1)) else (nI qn))))))
set_option maxHeartbeats 4000000 in
set_option maxRecDepth 100000 in
theorem kX0_join (l : Launch) (D : va_G) (cJ : ClassId) (h a1 a2 a3 a4 a5 : Nat) (u d lw uw an : Nat → Int64) (fn qn : Nat) (sd : Int64) (op : Int32) (q : Int32) (r : Int32) : MuI l yX0_join wsX0_join ({ frames := 2, cells := 0, slots := 0, locals := 46 } : Room) [.ref h, .int op, .int q, .int r] D (xW cJ h a1 a2 a3 a4 a5 u d lw uw an (nI fn) (nI qn) sd) [(cJ, .long)] (xW cJ h a1 a2 a3 a4 a5 u d lw uw (kvX0_join_an an qn op q r) (nI fn) (kvX0_join_qc qn op q r) sd) (kvX0_join qn op q r) := by
  intro sz
  refine oo_head (C := RX0) (cc := cX0_join) (maxL := 5) (ret := (some .int)) (by decide) rfl rfl (Nat.le_of_ble_eq_true rfl) ?_
  intro p e s m below meth c hx hb hr hlocks hml hown hnm hts hpre ls hl
  have hl : lv_has ls 5 [(0, .ref h), (1, .int op), (2, .int q), (3, .int r)] := hl
  obtain ⟨rfl, hP, hK, hD0⟩ := hpre
  have hD := hD0.self (sz := s.heap.size)
  have hA := oo_A (xW cJ h a1 a2 a3 a4 a5 u d lw uw an (nI fn) (nI qn) sd) s
  have hS : va_S (va_A (xW cJ h a1 a2 a3 a4 a5 u d lw uw an (nI fn) (nI qn) sd) s.heap.size) s.heap s.heap [] := va_S.rf
  have hin : ∀ w ∈ wsX00, w ∈ wsX0_join := fun w h => List.mem_cons_of_mem _ (List.mem_append_right _ h)
  refine lv_iload_n hx hb dX0_join_0 rfl (lv_at hl 1 rfl) ?_
  refine lv_if_lt (tgt := 17) hx hb dX0_join_1 (by decide) (fun c_1 => ?_) (fun c_1 => ?_)
  · refine lv_iconst (v := (-1 : Int32)) hx hb dX0_join_17 (by decide) ?_
    have hP := Eq.mp (congrArg (fun z9 => va_P D vwCl (xW cJ h a1 a2 a3 a4 a5 u d lw uw an (nI fn) z9 sd) s.heap) (show nI qn = kvX0_join_qc qn op q r from (by unfold kvX0_join_qc; rw [if_pos c_1]))) hP
    have hP := Eq.mp (congrArg (fun z9 => va_P D vwCl (xW cJ h a1 a2 a3 a4 a5 u d lw uw z9 (nI fn) (kvX0_join_qc qn op q r) sd) s.heap) (show an = kvX0_join_an an qn op q r from (by unfold kvX0_join_an; rw [if_pos c_1]))) hP
    have hP : va_P D vwCl (xW cJ h a1 a2 a3 a4 a5 u d lw uw (kvX0_join_an an qn op q r) (nI fn) (kvX0_join_qc qn op q r) sd) s.heap := hP
    have hD : va_D _ (xW cJ h a1 a2 a3 a4 a5 u d lw uw (kvX0_join_an an qn op q r) (nI fn) (kvX0_join_qc qn op q r) sd) := oo_Dre hD rfl
    exact mu_reti hx hb hr hlocks hP hD hS (by unfold kvX0_join; rw [if_pos c_1]) dX0_join_18
  · refine lv_iload_n hx hb dX0_join_4 rfl (lv_at hl 1 rfl) ?_
    refine lv_iconst (v := (3 : Int32)) hx hb dX0_join_5 (by decide) ?_
    refine lv_icmp_gt (tgt := 17) hx hb dX0_join_6 (by decide) (fun c_6 => ?_) (fun c_6 => ?_)
    · refine lv_iconst (v := (-1 : Int32)) hx hb dX0_join_17 (by decide) ?_
      have hP := Eq.mp (congrArg (fun z9 => va_P D vwCl (xW cJ h a1 a2 a3 a4 a5 u d lw uw an (nI fn) z9 sd) s.heap) (show nI qn = kvX0_join_qc qn op q r from (by unfold kvX0_join_qc; rw [if_neg c_1, if_pos c_6]))) hP
      have hP := Eq.mp (congrArg (fun z9 => va_P D vwCl (xW cJ h a1 a2 a3 a4 a5 u d lw uw z9 (nI fn) (kvX0_join_qc qn op q r) sd) s.heap) (show an = kvX0_join_an an qn op q r from (by unfold kvX0_join_an; rw [if_neg c_1, if_pos c_6]))) hP
      have hP : va_P D vwCl (xW cJ h a1 a2 a3 a4 a5 u d lw uw (kvX0_join_an an qn op q r) (nI fn) (kvX0_join_qc qn op q r) sd) s.heap := hP
      have hD : va_D _ (xW cJ h a1 a2 a3 a4 a5 u d lw uw (kvX0_join_an an qn op q r) (nI fn) (kvX0_join_qc qn op q r) sd) := oo_Dre hD rfl
      exact mu_reti hx hb hr hlocks hP hD hS (by unfold kvX0_join; rw [if_neg c_1, if_pos c_6]) dX0_join_18
    · refine lv_aload_n hx hb dX0_join_9 rfl (lv_at hl 0 rfl) ?_
      refine lv_iload_n hx hb dX0_join_10 rfl (lv_at hl 2 rfl) ?_
      refine ro_calli (va_runV (As := [.int q]) (rest := []) ⟨hx, hb, hml, hown, hts⟩ (kX0_isQuestion l D cJ h a1 a2 a3 a4 a5 u d lw uw an fn qn sd q) (cwV 1 hts gX0_join_X0_isQuestion rfl rfl rfl ok_X0_isQuestion ⟨Nat.le_of_ble_eq_true rfl, Nat.le_of_ble_eq_true rfl⟩) ⟨oo_blind, va_recv hK hP (ci := 0) (q0 := 0) rfl rfl, oo_ps hP hK [0, 1, 2, 3, 4, 5] rfl [0] rfl⟩ rfl rfl hl.1 rfl (lv_room (Nat.le_of_ble_eq_true rfl)) dX0_join_11 ⟨Nat.le_of_ble_eq_true rfl, Nat.le_of_ble_eq_true rfl⟩) hP hS (fun H locs hP hS => ?_)
      refine lv_if_ne (tgt := 19) hx hb dX0_join_14 (by decide) (fun c_14 => ?_) (fun c_14 => ?_)
      · refine lv_iload_n hx hb dX0_join_19 rfl (lv_at hl 1 rfl) ?_
        refine lv_iconst (v := (3 : Int32)) hx hb dX0_join_20 (by decide) ?_
        refine lv_icmp_eq (tgt := 34) hx hb dX0_join_21 (by decide) (fun c_21 => ?_) (fun c_21 => ?_)
        · refine lv_aload_n hx hb dX0_join_34 rfl (lv_at hl 0 rfl) ?_
          refine ro_calli (va_runV (As := []) (rest := []) ⟨hx, hb, hml, hown, hts⟩ (kX0_isFull l D cJ h a1 a2 a3 a4 a5 u d lw uw an fn qn sd) (cwV 0 hts gX0_join_X0_isFull rfl rfl rfl ok_X0_isFull ⟨Nat.le_of_ble_eq_true rfl, Nat.le_of_ble_eq_true rfl⟩) ⟨oo_blind, va_recv hK hP (ci := 0) (q0 := 0) rfl rfl, oo_ps hP hK [0, 1, 2, 3, 4, 5] rfl [0] rfl⟩ rfl rfl hl.1 rfl (lv_room (Nat.le_of_ble_eq_true rfl)) dX0_join_35 ⟨Nat.le_of_ble_eq_true rfl, Nat.le_of_ble_eq_true rfl⟩) hP hS (fun H locs hP hS => ?_)
          refine lv_if_eq (tgt := 44) hx hb dX0_join_38 (by decide) (fun c_38 => ?_) (fun c_38 => ?_)
          · refine lv_iconst (v := nI 0) hx hb dX0_join_44 (by decide) ?_
            refine lv_istore (lv' := [(4, .int (nI 0)), (0, .ref h), (1, .int op), (2, .int q), (3, .int r)]) hx hb dX0_join_45 hl (by decide) rfl (fun ls hl => ?_)
            have hl : lv_has ls 5 [(0, .ref h), (1, .int op), (2, .int q), (3, .int r), (4, .int (nI 0))] := lv_sub hl [1, 2, 3, 4, 0] rfl
            have hP := Eq.mp (congrArg (fun z9 => va_P D vwCl (xW cJ h a1 a2 a3 a4 a5 u d lw uw z9 (nI fn) (nI qn) sd) H) (show an = kl_joinA an qn op q r 0 from (by first | rfl | (simp only [kl_joinA]; done) | (simp only [kl_joinA]; rw [if_neg c_1, if_neg c_6, if_neg c_14, if_pos c_21, if_pos c_38])))) hP
            have hP : va_P D vwCl (xW cJ h a1 a2 a3 a4 a5 u d lw uw (kl_joinA an qn op q r 0) (nI fn) (nI qn) sd) H := hP
            have hD : va_D _ (xW cJ h a1 a2 a3 a4 a5 u d lw uw (kl_joinA an qn op q r 0) (nI fn) (nI qn) sd) := oo_Dre hD rfl
            refine oo_loop (N := 64) (fun n H locs ls => va_P D vwCl (xW cJ h a1 a2 a3 a4 a5 u d lw uw (kl_joinA an qn op q r n) (nI fn) (nI qn) sd) H ∧ va_D (va_A (xW cJ h a1 a2 a3 a4 a5 u d lw uw an (nI fn) (nI qn) sd) s.heap.size) (xW cJ h a1 a2 a3 a4 a5 u d lw uw (kl_joinA an qn op q r n) (nI fn) (nI qn) sd) ∧ va_S (va_A (xW cJ h a1 a2 a3 a4 a5 u d lw uw an (nI fn) (nI qn) sd) s.heap.size) s.heap H locs ∧ lv_has ls 5 [(0, .ref h), (1, .int op), (2, .int q), (3, .int r), (4, .int (nI n))]) ?_ ?_ 0 (Nat.zero_le _) ⟨hP, hD, hS, hl⟩
            · intro H locs ls hI
              obtain ⟨hP, hD, hS, hl⟩ := hI
              refine lv_iload hx hb dX0_join_47 (lv_at hl 4 rfl) ?_
              refine lv_bipush (v := nI 64) hx hb dX0_join_49 (by decide) ?_
              refine lv_icmp_ge (tgt := 84) hx hb dX0_join_51 (by decide) (fun c_51 => ?_) (fun c_51 => ?_)
              · refine lv_aload_n hx hb dX0_join_84 rfl (lv_at hl 0 rfl) ?_
                refine mu_calli (va_runV (As := []) (rest := []) ⟨hx, hb, hml, hown, hts⟩ (kX0_keepNext l D cJ h a1 a2 a3 a4 a5 u d lw uw (kl_joinA an qn op q r 64) fn qn sd _) (cwV 0 hts gX0_join_X0_keepNext rfl rfl rfl ok_X0_keepNext ⟨Nat.le_of_ble_eq_true rfl, Nat.le_of_ble_eq_true rfl⟩) ⟨oo_blindM, va_recv hK hP (ci := 0) (q0 := 0) rfl rfl, oo_psM hP hD hK [0, 1, 2, 3, 4, 5] rfl rfl [0] rfl⟩ rfl rfl hl.1 rfl (lv_room (Nat.le_of_ble_eq_true rfl)) dX0_join_85 ⟨Nat.le_of_ble_eq_true rfl, Nat.le_of_ble_eq_true rfl⟩) hP hD hS hA [0, 1, 2, 3, 4, 5] rfl rfl (fun H locs hP hD hS => ?_)
                have hP : va_P D vwCl (xW cJ h a1 a2 a3 a4 a5 u d lw uw (kl_joinA an qn op q r 64) (nI fn) (nI (qn + 1)) sd) H := hP
                have hD : va_D _ (xW cJ h a1 a2 a3 a4 a5 u d lw uw (kl_joinA an qn op q r 64) (nI fn) (nI (qn + 1)) sd) := hD
                have hP := Eq.mp (congrArg (fun z9 => va_P D vwCl (xW cJ h a1 a2 a3 a4 a5 u d lw uw (kl_joinA an qn op q r 64) (nI fn) z9 sd) H) (show nI (qn + 1) = kvX0_join_qc qn op q r from (by unfold kvX0_join_qc; rw [if_neg c_1, if_neg c_6, if_neg c_14, if_pos c_21, if_pos c_38]))) hP
                have hP := Eq.mp (congrArg (fun z9 => va_P D vwCl (xW cJ h a1 a2 a3 a4 a5 u d lw uw z9 (nI fn) (kvX0_join_qc qn op q r) sd) H) (show (kl_joinA an qn op q r 64) = kvX0_join_an an qn op q r from (by unfold kvX0_join_an; rw [if_neg c_1, if_neg c_6, if_neg c_14, if_pos c_21, if_pos c_38]))) hP
                have hP : va_P D vwCl (xW cJ h a1 a2 a3 a4 a5 u d lw uw (kvX0_join_an an qn op q r) (nI fn) (kvX0_join_qc qn op q r) sd) H := hP
                have hD : va_D _ (xW cJ h a1 a2 a3 a4 a5 u d lw uw (kvX0_join_an an qn op q r) (nI fn) (kvX0_join_qc qn op q r) sd) := oo_Dre hD rfl
                exact mu_reti hx hb hr hlocks hP hD hS (by unfold kvX0_join; rw [if_neg c_1, if_neg c_6, if_neg c_14, if_pos c_21, if_pos c_38]) dX0_join_88
              · exact absurd (nI_le (Nat.le_refl _) (by omega)) c_51
            · intro n hltn ihn H locs ls hI
              obtain ⟨hP, hD, hS, hl⟩ := hI
              refine lv_iload hx hb dX0_join_47 (lv_at hl 4 rfl) ?_
              refine lv_bipush (v := nI 64) hx hb dX0_join_49 (by decide) ?_
              refine lv_icmp_ge (tgt := 84) hx hb dX0_join_51 (by decide) (fun c_51 => ?_) (fun c_51 => ?_)
              · exact absurd c_51 (nI_ge hltn (by omega))
              · refine lv_aload_n hx hb dX0_join_54 rfl (lv_at hl 0 rfl) ?_
                refine lv_iload hx hb dX0_join_55 (lv_at hl 4 rfl) ?_
                refine lv_iload_n hx hb dX0_join_57 rfl (lv_at hl 1 rfl) ?_
                refine lv_aload_n hx hb dX0_join_58 rfl (lv_at hl 0 rfl) ?_
                refine lv_iload_n hx hb dX0_join_59 rfl (lv_at hl 2 rfl) ?_
                refine lv_iload hx hb dX0_join_60 (lv_at hl 4 rfl) ?_
                refine ro_calll (va_runV (As := [.int q, .int (nI n)]) (rest := [.int op, .int (nI n), .ref h]) ⟨hx, hb, hml, hown, hts⟩ (kX0_blockOf l D cJ h a1 a2 a3 a4 a5 u d lw uw (kl_joinA an qn op q r n) fn qn sd q (nI n)) (cwV 2 hts gX0_join_X0_blockOf rfl rfl rfl ok_X0_blockOf ⟨Nat.le_of_ble_eq_true rfl, Nat.le_of_ble_eq_true rfl⟩) ⟨oo_blind, va_recv hK hP (ci := 0) (q0 := 0) rfl rfl, oo_ps hP hK [0, 1, 2, 3, 4, 5] rfl [0] rfl⟩ rfl rfl hl.1 rfl (lv_room (Nat.le_of_ble_eq_true rfl)) dX0_join_62 ⟨Nat.le_of_ble_eq_true rfl, Nat.le_of_ble_eq_true rfl⟩) hP hS (fun H locs hP hS => ?_)
                refine lv_aload_n hx hb dX0_join_65 rfl (lv_at hl 0 rfl) ?_
                refine lv_iload_n hx hb dX0_join_66 rfl (lv_at hl 3 rfl) ?_
                refine lv_iload hx hb dX0_join_67 (lv_at hl 4 rfl) ?_
                refine ro_calll (va_runV (As := [.int r, .int (nI n)]) (rest := [.long (kvX0_blockOf (kl_joinA an qn op q r n) qn q (nI n)), .int op, .int (nI n), .ref h]) ⟨hx, hb, hml, hown, hts⟩ (kX0_blockOf l D cJ h a1 a2 a3 a4 a5 u d lw uw (kl_joinA an qn op q r n) fn qn sd r (nI n)) (cwV 2 hts gX0_join_X0_blockOf rfl rfl rfl ok_X0_blockOf ⟨Nat.le_of_ble_eq_true rfl, Nat.le_of_ble_eq_true rfl⟩) ⟨oo_blind, va_recv hK hP (ci := 0) (q0 := 0) rfl rfl, oo_ps hP hK [0, 1, 2, 3, 4, 5] rfl [0] rfl⟩ rfl rfl hl.1 rfl (lv_room (Nat.le_of_ble_eq_true rfl)) dX0_join_69 ⟨Nat.le_of_ble_eq_true rfl, Nat.le_of_ble_eq_true rfl⟩) hP hS (fun H locs hP hS => ?_)
                refine ro_calll (va_runS (As := [.int op, .long (kvX0_blockOf (kl_joinA an qn op q r n) qn q (nI n)), .long (kvX0_blockOf (kl_joinA an qn op q r n) qn r (nI n))]) (rest := [.int (nI n), .ref h]) ⟨hx, hb, hml, hown, hts⟩ (kX0_joined l D op (kvX0_blockOf (kl_joinA an qn op q r n) qn q (nI n)) (kvX0_blockOf (kl_joinA an qn op q r n) qn r (nI n))) (va_cwS 3 hts gX0_join_X0_joined rfl rfl rfl ok_X0_joined ⟨Nat.le_of_ble_eq_true rfl, Nat.le_of_ble_eq_true rfl⟩) ⟨oo_blind, oo_ps hP hK [] rfl [] rfl⟩ rfl rfl hl.1 rfl (lv_room (Nat.le_of_ble_eq_true rfl)) dX0_join_72 ⟨Nat.le_of_ble_eq_true rfl, Nat.le_of_ble_eq_true rfl⟩) hP hS (fun H locs hP hS => ?_)
                refine mu_callv (va_runV (As := [.int (nI n), .long (kvX0_joined op (kvX0_blockOf (kl_joinA an qn op q r n) qn q (nI n)) (kvX0_blockOf (kl_joinA an qn op q r n) qn r (nI n)))]) (rest := []) ⟨hx, hb, hml, hown, hts⟩ (kX0_putNextBlock l D cJ h a1 a2 a3 a4 a5 u d lw uw (kl_joinA an qn op q r n) fn qn sd (nI n) (kvX0_joined op (kvX0_blockOf (kl_joinA an qn op q r n) qn q (nI n)) (kvX0_blockOf (kl_joinA an qn op q r n) qn r (nI n))) _) (cwV 2 hts gX0_join_X0_putNextBlock rfl rfl rfl ok_X0_putNextBlock ⟨Nat.le_of_ble_eq_true rfl, Nat.le_of_ble_eq_true rfl⟩) ⟨oo_blindM, va_recv hK hP (ci := 0) (q0 := 0) rfl rfl, oo_psM hP hD hK [0, 1, 2, 3, 4, 5] rfl rfl [0] rfl⟩ rfl rfl hl.1 rfl (lv_room (Nat.le_of_ble_eq_true rfl)) dX0_join_75 ⟨Nat.le_of_ble_eq_true rfl, Nat.le_of_ble_eq_true rfl⟩) hP hD hS hA [0, 1, 2, 3, 4, 5] rfl rfl (fun H locs hP hD hS => ?_)
                have hP : va_P D vwCl (xW cJ h a1 a2 a3 a4 a5 u d lw uw (kvX0_put_c0 2560 (kl_joinA an qn op q r n) (((nI qn) * (nI 64)) + (nI n)) (kvX0_joined op (kvX0_blockOf (kl_joinA an qn op q r n) qn q (nI n)) (kvX0_blockOf (kl_joinA an qn op q r n) qn r (nI n)))) (nI fn) (nI qn) sd) H := hP
                have hD : va_D _ (xW cJ h a1 a2 a3 a4 a5 u d lw uw (kvX0_put_c0 2560 (kl_joinA an qn op q r n) (((nI qn) * (nI 64)) + (nI n)) (kvX0_joined op (kvX0_blockOf (kl_joinA an qn op q r n) qn q (nI n)) (kvX0_blockOf (kl_joinA an qn op q r n) qn r (nI n)))) (nI fn) (nI qn) sd) := hD
                refine lv_iinc (v := nI (n + 1)) (lv' := [(4, .int (nI (n + 1))), (0, .ref h), (1, .int op), (2, .int q), (3, .int r)]) hx hb dX0_join_78 hl (k := 4) rfl (oo_inc n 1) (by decide) rfl (fun ls hl => ?_)
                refine lv_goto (tgt := 47) hx hb dX0_join_81 (by decide) ?_
                have hl : lv_has ls 5 [(0, .ref h), (1, .int op), (2, .int q), (3, .int r), (4, .int (nI (n + 1)))] := lv_sub hl [1, 2, 3, 4, 0] rfl
                have hP := Eq.mp (congrArg (fun z9 => va_P D vwCl (xW cJ h a1 a2 a3 a4 a5 u d lw uw z9 (nI fn) (nI qn) sd) H) (show kvX0_put_c0 2560 (kl_joinA an qn op q r n) (((nI qn) * (nI 64)) + (nI n)) (kvX0_joined op (kvX0_blockOf (kl_joinA an qn op q r n) qn q (nI n)) (kvX0_blockOf (kl_joinA an qn op q r n) qn r (nI n))) = kl_joinA an qn op q r (n + 1) from (by first | rfl | (simp only [kl_joinA]; done)))) hP
                have hP : va_P D vwCl (xW cJ h a1 a2 a3 a4 a5 u d lw uw (kl_joinA an qn op q r (n + 1)) (nI fn) (nI qn) sd) H := hP
                have hD : va_D _ (xW cJ h a1 a2 a3 a4 a5 u d lw uw (kl_joinA an qn op q r (n + 1)) (nI fn) (nI qn) sd) := oo_Dre hD rfl
                exact ihn _ _ _ ⟨hP, hD, hS, hl⟩
          · refine lv_bipush (v := (-3 : Int32)) hx hb dX0_join_41 (by decide) ?_
            have hP := Eq.mp (congrArg (fun z9 => va_P D vwCl (xW cJ h a1 a2 a3 a4 a5 u d lw uw an (nI fn) z9 sd) H) (show nI qn = kvX0_join_qc qn op q r from (by unfold kvX0_join_qc; rw [if_neg c_1, if_neg c_6, if_neg c_14, if_pos c_21, if_neg c_38]))) hP
            have hP := Eq.mp (congrArg (fun z9 => va_P D vwCl (xW cJ h a1 a2 a3 a4 a5 u d lw uw z9 (nI fn) (kvX0_join_qc qn op q r) sd) H) (show an = kvX0_join_an an qn op q r from (by unfold kvX0_join_an; rw [if_neg c_1, if_neg c_6, if_neg c_14, if_pos c_21, if_neg c_38]))) hP
            have hP : va_P D vwCl (xW cJ h a1 a2 a3 a4 a5 u d lw uw (kvX0_join_an an qn op q r) (nI fn) (kvX0_join_qc qn op q r) sd) H := hP
            have hD : va_D _ (xW cJ h a1 a2 a3 a4 a5 u d lw uw (kvX0_join_an an qn op q r) (nI fn) (kvX0_join_qc qn op q r) sd) := oo_Dre hD rfl
            exact mu_reti hx hb hr hlocks hP hD hS (by unfold kvX0_join; rw [if_neg c_1, if_neg c_6, if_neg c_14, if_pos c_21, if_neg c_38]) dX0_join_43
        · refine lv_aload_n hx hb dX0_join_24 rfl (lv_at hl 0 rfl) ?_
          refine lv_iload_n hx hb dX0_join_25 rfl (lv_at hl 3 rfl) ?_
          refine ro_calli (va_runV (As := [.int r]) (rest := []) ⟨hx, hb, hml, hown, hts⟩ (kX0_isQuestion l D cJ h a1 a2 a3 a4 a5 u d lw uw an fn qn sd r) (cwV 1 hts gX0_join_X0_isQuestion rfl rfl rfl ok_X0_isQuestion ⟨Nat.le_of_ble_eq_true rfl, Nat.le_of_ble_eq_true rfl⟩) ⟨oo_blind, va_recv hK hP (ci := 0) (q0 := 0) rfl rfl, oo_ps hP hK [0, 1, 2, 3, 4, 5] rfl [0] rfl⟩ rfl rfl hl.1 rfl (lv_room (Nat.le_of_ble_eq_true rfl)) dX0_join_26 ⟨Nat.le_of_ble_eq_true rfl, Nat.le_of_ble_eq_true rfl⟩) hP hS (fun H locs hP hS => ?_)
          refine lv_if_ne (tgt := 34) hx hb dX0_join_29 (by decide) (fun c_29 => ?_) (fun c_29 => ?_)
          · refine lv_aload_n hx hb dX0_join_34 rfl (lv_at hl 0 rfl) ?_
            refine ro_calli (va_runV (As := []) (rest := []) ⟨hx, hb, hml, hown, hts⟩ (kX0_isFull l D cJ h a1 a2 a3 a4 a5 u d lw uw an fn qn sd) (cwV 0 hts gX0_join_X0_isFull rfl rfl rfl ok_X0_isFull ⟨Nat.le_of_ble_eq_true rfl, Nat.le_of_ble_eq_true rfl⟩) ⟨oo_blind, va_recv hK hP (ci := 0) (q0 := 0) rfl rfl, oo_ps hP hK [0, 1, 2, 3, 4, 5] rfl [0] rfl⟩ rfl rfl hl.1 rfl (lv_room (Nat.le_of_ble_eq_true rfl)) dX0_join_35 ⟨Nat.le_of_ble_eq_true rfl, Nat.le_of_ble_eq_true rfl⟩) hP hS (fun H locs hP hS => ?_)
            refine lv_if_eq (tgt := 44) hx hb dX0_join_38 (by decide) (fun c_38 => ?_) (fun c_38 => ?_)
            · refine lv_iconst (v := nI 0) hx hb dX0_join_44 (by decide) ?_
              refine lv_istore (lv' := [(4, .int (nI 0)), (0, .ref h), (1, .int op), (2, .int q), (3, .int r)]) hx hb dX0_join_45 hl (by decide) rfl (fun ls hl => ?_)
              have hl : lv_has ls 5 [(0, .ref h), (1, .int op), (2, .int q), (3, .int r), (4, .int (nI 0))] := lv_sub hl [1, 2, 3, 4, 0] rfl
              have hP := Eq.mp (congrArg (fun z9 => va_P D vwCl (xW cJ h a1 a2 a3 a4 a5 u d lw uw z9 (nI fn) (nI qn) sd) H) (show an = kl_joinA an qn op q r 0 from (by first | rfl | (simp only [kl_joinA]; done) | (simp only [kl_joinA]; rw [if_neg c_1, if_neg c_6, if_neg c_14, if_neg c_21, if_neg c_29, if_pos c_38])))) hP
              have hP : va_P D vwCl (xW cJ h a1 a2 a3 a4 a5 u d lw uw (kl_joinA an qn op q r 0) (nI fn) (nI qn) sd) H := hP
              have hD : va_D _ (xW cJ h a1 a2 a3 a4 a5 u d lw uw (kl_joinA an qn op q r 0) (nI fn) (nI qn) sd) := oo_Dre hD rfl
              refine oo_loop (N := 64) (fun n H locs ls => va_P D vwCl (xW cJ h a1 a2 a3 a4 a5 u d lw uw (kl_joinA an qn op q r n) (nI fn) (nI qn) sd) H ∧ va_D (va_A (xW cJ h a1 a2 a3 a4 a5 u d lw uw an (nI fn) (nI qn) sd) s.heap.size) (xW cJ h a1 a2 a3 a4 a5 u d lw uw (kl_joinA an qn op q r n) (nI fn) (nI qn) sd) ∧ va_S (va_A (xW cJ h a1 a2 a3 a4 a5 u d lw uw an (nI fn) (nI qn) sd) s.heap.size) s.heap H locs ∧ lv_has ls 5 [(0, .ref h), (1, .int op), (2, .int q), (3, .int r), (4, .int (nI n))]) ?_ ?_ 0 (Nat.zero_le _) ⟨hP, hD, hS, hl⟩
              · intro H locs ls hI
                obtain ⟨hP, hD, hS, hl⟩ := hI
                refine lv_iload hx hb dX0_join_47 (lv_at hl 4 rfl) ?_
                refine lv_bipush (v := nI 64) hx hb dX0_join_49 (by decide) ?_
                refine lv_icmp_ge (tgt := 84) hx hb dX0_join_51 (by decide) (fun c_51 => ?_) (fun c_51 => ?_)
                · refine lv_aload_n hx hb dX0_join_84 rfl (lv_at hl 0 rfl) ?_
                  refine mu_calli (va_runV (As := []) (rest := []) ⟨hx, hb, hml, hown, hts⟩ (kX0_keepNext l D cJ h a1 a2 a3 a4 a5 u d lw uw (kl_joinA an qn op q r 64) fn qn sd _) (cwV 0 hts gX0_join_X0_keepNext rfl rfl rfl ok_X0_keepNext ⟨Nat.le_of_ble_eq_true rfl, Nat.le_of_ble_eq_true rfl⟩) ⟨oo_blindM, va_recv hK hP (ci := 0) (q0 := 0) rfl rfl, oo_psM hP hD hK [0, 1, 2, 3, 4, 5] rfl rfl [0] rfl⟩ rfl rfl hl.1 rfl (lv_room (Nat.le_of_ble_eq_true rfl)) dX0_join_85 ⟨Nat.le_of_ble_eq_true rfl, Nat.le_of_ble_eq_true rfl⟩) hP hD hS hA [0, 1, 2, 3, 4, 5] rfl rfl (fun H locs hP hD hS => ?_)
                  have hP : va_P D vwCl (xW cJ h a1 a2 a3 a4 a5 u d lw uw (kl_joinA an qn op q r 64) (nI fn) (nI (qn + 1)) sd) H := hP
                  have hD : va_D _ (xW cJ h a1 a2 a3 a4 a5 u d lw uw (kl_joinA an qn op q r 64) (nI fn) (nI (qn + 1)) sd) := hD
                  have hP := Eq.mp (congrArg (fun z9 => va_P D vwCl (xW cJ h a1 a2 a3 a4 a5 u d lw uw (kl_joinA an qn op q r 64) (nI fn) z9 sd) H) (show nI (qn + 1) = kvX0_join_qc qn op q r from (by unfold kvX0_join_qc; rw [if_neg c_1, if_neg c_6, if_neg c_14, if_neg c_21, if_neg c_29, if_pos c_38]))) hP
                  have hP := Eq.mp (congrArg (fun z9 => va_P D vwCl (xW cJ h a1 a2 a3 a4 a5 u d lw uw z9 (nI fn) (kvX0_join_qc qn op q r) sd) H) (show (kl_joinA an qn op q r 64) = kvX0_join_an an qn op q r from (by unfold kvX0_join_an; rw [if_neg c_1, if_neg c_6, if_neg c_14, if_neg c_21, if_neg c_29, if_pos c_38]))) hP
                  have hP : va_P D vwCl (xW cJ h a1 a2 a3 a4 a5 u d lw uw (kvX0_join_an an qn op q r) (nI fn) (kvX0_join_qc qn op q r) sd) H := hP
                  have hD : va_D _ (xW cJ h a1 a2 a3 a4 a5 u d lw uw (kvX0_join_an an qn op q r) (nI fn) (kvX0_join_qc qn op q r) sd) := oo_Dre hD rfl
                  exact mu_reti hx hb hr hlocks hP hD hS (by unfold kvX0_join; rw [if_neg c_1, if_neg c_6, if_neg c_14, if_neg c_21, if_neg c_29, if_pos c_38]) dX0_join_88
                · exact absurd (nI_le (Nat.le_refl _) (by omega)) c_51
              · intro n hltn ihn H locs ls hI
                obtain ⟨hP, hD, hS, hl⟩ := hI
                refine lv_iload hx hb dX0_join_47 (lv_at hl 4 rfl) ?_
                refine lv_bipush (v := nI 64) hx hb dX0_join_49 (by decide) ?_
                refine lv_icmp_ge (tgt := 84) hx hb dX0_join_51 (by decide) (fun c_51 => ?_) (fun c_51 => ?_)
                · exact absurd c_51 (nI_ge hltn (by omega))
                · refine lv_aload_n hx hb dX0_join_54 rfl (lv_at hl 0 rfl) ?_
                  refine lv_iload hx hb dX0_join_55 (lv_at hl 4 rfl) ?_
                  refine lv_iload_n hx hb dX0_join_57 rfl (lv_at hl 1 rfl) ?_
                  refine lv_aload_n hx hb dX0_join_58 rfl (lv_at hl 0 rfl) ?_
                  refine lv_iload_n hx hb dX0_join_59 rfl (lv_at hl 2 rfl) ?_
                  refine lv_iload hx hb dX0_join_60 (lv_at hl 4 rfl) ?_
                  refine ro_calll (va_runV (As := [.int q, .int (nI n)]) (rest := [.int op, .int (nI n), .ref h]) ⟨hx, hb, hml, hown, hts⟩ (kX0_blockOf l D cJ h a1 a2 a3 a4 a5 u d lw uw (kl_joinA an qn op q r n) fn qn sd q (nI n)) (cwV 2 hts gX0_join_X0_blockOf rfl rfl rfl ok_X0_blockOf ⟨Nat.le_of_ble_eq_true rfl, Nat.le_of_ble_eq_true rfl⟩) ⟨oo_blind, va_recv hK hP (ci := 0) (q0 := 0) rfl rfl, oo_ps hP hK [0, 1, 2, 3, 4, 5] rfl [0] rfl⟩ rfl rfl hl.1 rfl (lv_room (Nat.le_of_ble_eq_true rfl)) dX0_join_62 ⟨Nat.le_of_ble_eq_true rfl, Nat.le_of_ble_eq_true rfl⟩) hP hS (fun H locs hP hS => ?_)
                  refine lv_aload_n hx hb dX0_join_65 rfl (lv_at hl 0 rfl) ?_
                  refine lv_iload_n hx hb dX0_join_66 rfl (lv_at hl 3 rfl) ?_
                  refine lv_iload hx hb dX0_join_67 (lv_at hl 4 rfl) ?_
                  refine ro_calll (va_runV (As := [.int r, .int (nI n)]) (rest := [.long (kvX0_blockOf (kl_joinA an qn op q r n) qn q (nI n)), .int op, .int (nI n), .ref h]) ⟨hx, hb, hml, hown, hts⟩ (kX0_blockOf l D cJ h a1 a2 a3 a4 a5 u d lw uw (kl_joinA an qn op q r n) fn qn sd r (nI n)) (cwV 2 hts gX0_join_X0_blockOf rfl rfl rfl ok_X0_blockOf ⟨Nat.le_of_ble_eq_true rfl, Nat.le_of_ble_eq_true rfl⟩) ⟨oo_blind, va_recv hK hP (ci := 0) (q0 := 0) rfl rfl, oo_ps hP hK [0, 1, 2, 3, 4, 5] rfl [0] rfl⟩ rfl rfl hl.1 rfl (lv_room (Nat.le_of_ble_eq_true rfl)) dX0_join_69 ⟨Nat.le_of_ble_eq_true rfl, Nat.le_of_ble_eq_true rfl⟩) hP hS (fun H locs hP hS => ?_)
                  refine ro_calll (va_runS (As := [.int op, .long (kvX0_blockOf (kl_joinA an qn op q r n) qn q (nI n)), .long (kvX0_blockOf (kl_joinA an qn op q r n) qn r (nI n))]) (rest := [.int (nI n), .ref h]) ⟨hx, hb, hml, hown, hts⟩ (kX0_joined l D op (kvX0_blockOf (kl_joinA an qn op q r n) qn q (nI n)) (kvX0_blockOf (kl_joinA an qn op q r n) qn r (nI n))) (va_cwS 3 hts gX0_join_X0_joined rfl rfl rfl ok_X0_joined ⟨Nat.le_of_ble_eq_true rfl, Nat.le_of_ble_eq_true rfl⟩) ⟨oo_blind, oo_ps hP hK [] rfl [] rfl⟩ rfl rfl hl.1 rfl (lv_room (Nat.le_of_ble_eq_true rfl)) dX0_join_72 ⟨Nat.le_of_ble_eq_true rfl, Nat.le_of_ble_eq_true rfl⟩) hP hS (fun H locs hP hS => ?_)
                  refine mu_callv (va_runV (As := [.int (nI n), .long (kvX0_joined op (kvX0_blockOf (kl_joinA an qn op q r n) qn q (nI n)) (kvX0_blockOf (kl_joinA an qn op q r n) qn r (nI n)))]) (rest := []) ⟨hx, hb, hml, hown, hts⟩ (kX0_putNextBlock l D cJ h a1 a2 a3 a4 a5 u d lw uw (kl_joinA an qn op q r n) fn qn sd (nI n) (kvX0_joined op (kvX0_blockOf (kl_joinA an qn op q r n) qn q (nI n)) (kvX0_blockOf (kl_joinA an qn op q r n) qn r (nI n))) _) (cwV 2 hts gX0_join_X0_putNextBlock rfl rfl rfl ok_X0_putNextBlock ⟨Nat.le_of_ble_eq_true rfl, Nat.le_of_ble_eq_true rfl⟩) ⟨oo_blindM, va_recv hK hP (ci := 0) (q0 := 0) rfl rfl, oo_psM hP hD hK [0, 1, 2, 3, 4, 5] rfl rfl [0] rfl⟩ rfl rfl hl.1 rfl (lv_room (Nat.le_of_ble_eq_true rfl)) dX0_join_75 ⟨Nat.le_of_ble_eq_true rfl, Nat.le_of_ble_eq_true rfl⟩) hP hD hS hA [0, 1, 2, 3, 4, 5] rfl rfl (fun H locs hP hD hS => ?_)
                  have hP : va_P D vwCl (xW cJ h a1 a2 a3 a4 a5 u d lw uw (kvX0_put_c0 2560 (kl_joinA an qn op q r n) (((nI qn) * (nI 64)) + (nI n)) (kvX0_joined op (kvX0_blockOf (kl_joinA an qn op q r n) qn q (nI n)) (kvX0_blockOf (kl_joinA an qn op q r n) qn r (nI n)))) (nI fn) (nI qn) sd) H := hP
                  have hD : va_D _ (xW cJ h a1 a2 a3 a4 a5 u d lw uw (kvX0_put_c0 2560 (kl_joinA an qn op q r n) (((nI qn) * (nI 64)) + (nI n)) (kvX0_joined op (kvX0_blockOf (kl_joinA an qn op q r n) qn q (nI n)) (kvX0_blockOf (kl_joinA an qn op q r n) qn r (nI n)))) (nI fn) (nI qn) sd) := hD
                  refine lv_iinc (v := nI (n + 1)) (lv' := [(4, .int (nI (n + 1))), (0, .ref h), (1, .int op), (2, .int q), (3, .int r)]) hx hb dX0_join_78 hl (k := 4) rfl (oo_inc n 1) (by decide) rfl (fun ls hl => ?_)
                  refine lv_goto (tgt := 47) hx hb dX0_join_81 (by decide) ?_
                  have hl : lv_has ls 5 [(0, .ref h), (1, .int op), (2, .int q), (3, .int r), (4, .int (nI (n + 1)))] := lv_sub hl [1, 2, 3, 4, 0] rfl
                  have hP := Eq.mp (congrArg (fun z9 => va_P D vwCl (xW cJ h a1 a2 a3 a4 a5 u d lw uw z9 (nI fn) (nI qn) sd) H) (show kvX0_put_c0 2560 (kl_joinA an qn op q r n) (((nI qn) * (nI 64)) + (nI n)) (kvX0_joined op (kvX0_blockOf (kl_joinA an qn op q r n) qn q (nI n)) (kvX0_blockOf (kl_joinA an qn op q r n) qn r (nI n))) = kl_joinA an qn op q r (n + 1) from (by first | rfl | (simp only [kl_joinA]; done)))) hP
                  have hP : va_P D vwCl (xW cJ h a1 a2 a3 a4 a5 u d lw uw (kl_joinA an qn op q r (n + 1)) (nI fn) (nI qn) sd) H := hP
                  have hD : va_D _ (xW cJ h a1 a2 a3 a4 a5 u d lw uw (kl_joinA an qn op q r (n + 1)) (nI fn) (nI qn) sd) := oo_Dre hD rfl
                  exact ihn _ _ _ ⟨hP, hD, hS, hl⟩
            · refine lv_bipush (v := (-3 : Int32)) hx hb dX0_join_41 (by decide) ?_
              have hP := Eq.mp (congrArg (fun z9 => va_P D vwCl (xW cJ h a1 a2 a3 a4 a5 u d lw uw an (nI fn) z9 sd) H) (show nI qn = kvX0_join_qc qn op q r from (by unfold kvX0_join_qc; rw [if_neg c_1, if_neg c_6, if_neg c_14, if_neg c_21, if_neg c_29, if_neg c_38]))) hP
              have hP := Eq.mp (congrArg (fun z9 => va_P D vwCl (xW cJ h a1 a2 a3 a4 a5 u d lw uw z9 (nI fn) (kvX0_join_qc qn op q r) sd) H) (show an = kvX0_join_an an qn op q r from (by unfold kvX0_join_an; rw [if_neg c_1, if_neg c_6, if_neg c_14, if_neg c_21, if_neg c_29, if_neg c_38]))) hP
              have hP : va_P D vwCl (xW cJ h a1 a2 a3 a4 a5 u d lw uw (kvX0_join_an an qn op q r) (nI fn) (kvX0_join_qc qn op q r) sd) H := hP
              have hD : va_D _ (xW cJ h a1 a2 a3 a4 a5 u d lw uw (kvX0_join_an an qn op q r) (nI fn) (kvX0_join_qc qn op q r) sd) := oo_Dre hD rfl
              exact mu_reti hx hb hr hlocks hP hD hS (by unfold kvX0_join; rw [if_neg c_1, if_neg c_6, if_neg c_14, if_neg c_21, if_neg c_29, if_neg c_38]) dX0_join_43
          · refine lv_iconst (v := (-1 : Int32)) hx hb dX0_join_32 (by decide) ?_
            have hP := Eq.mp (congrArg (fun z9 => va_P D vwCl (xW cJ h a1 a2 a3 a4 a5 u d lw uw an (nI fn) z9 sd) H) (show nI qn = kvX0_join_qc qn op q r from (by unfold kvX0_join_qc; rw [if_neg c_1, if_neg c_6, if_neg c_14, if_neg c_21, if_pos c_29]))) hP
            have hP := Eq.mp (congrArg (fun z9 => va_P D vwCl (xW cJ h a1 a2 a3 a4 a5 u d lw uw z9 (nI fn) (kvX0_join_qc qn op q r) sd) H) (show an = kvX0_join_an an qn op q r from (by unfold kvX0_join_an; rw [if_neg c_1, if_neg c_6, if_neg c_14, if_neg c_21, if_pos c_29]))) hP
            have hP : va_P D vwCl (xW cJ h a1 a2 a3 a4 a5 u d lw uw (kvX0_join_an an qn op q r) (nI fn) (kvX0_join_qc qn op q r) sd) H := hP
            have hD : va_D _ (xW cJ h a1 a2 a3 a4 a5 u d lw uw (kvX0_join_an an qn op q r) (nI fn) (kvX0_join_qc qn op q r) sd) := oo_Dre hD rfl
            exact mu_reti hx hb hr hlocks hP hD hS (by unfold kvX0_join; rw [if_neg c_1, if_neg c_6, if_neg c_14, if_neg c_21, if_pos c_29]) dX0_join_33
      · refine lv_iconst (v := (-1 : Int32)) hx hb dX0_join_17 (by decide) ?_
        have hP := Eq.mp (congrArg (fun z9 => va_P D vwCl (xW cJ h a1 a2 a3 a4 a5 u d lw uw an (nI fn) z9 sd) H) (show nI qn = kvX0_join_qc qn op q r from (by unfold kvX0_join_qc; rw [if_neg c_1, if_neg c_6, if_pos c_14]))) hP
        have hP := Eq.mp (congrArg (fun z9 => va_P D vwCl (xW cJ h a1 a2 a3 a4 a5 u d lw uw z9 (nI fn) (kvX0_join_qc qn op q r) sd) H) (show an = kvX0_join_an an qn op q r from (by unfold kvX0_join_an; rw [if_neg c_1, if_neg c_6, if_pos c_14]))) hP
        have hP : va_P D vwCl (xW cJ h a1 a2 a3 a4 a5 u d lw uw (kvX0_join_an an qn op q r) (nI fn) (kvX0_join_qc qn op q r) sd) H := hP
        have hD : va_D _ (xW cJ h a1 a2 a3 a4 a5 u d lw uw (kvX0_join_an an qn op q r) (nI fn) (kvX0_join_qc qn op q r) sd) := oo_Dre hD rfl
        exact mu_reti hx hb hr hlocks hP hD hS (by unfold kvX0_join; rw [if_neg c_1, if_neg c_6, if_pos c_14]) dX0_join_18
theorem ok_X0_holds : yX0_holds.cls = RX0 ∧ yX0_holds.cls ≠ "java/lang/invoke/MethodHandle" ∧ yX0_holds.cls ≠ "java/lang/invoke/VarHandle" ∧ (parseMethodDescriptor yX0_holds.desc).map (fun d => d.parameters.length) = some 2 := by decide +kernel
def kvX0_holds (an : Nat → Int64) (fn : Nat) (qn : Nat) (q : Int32) (w : Int32) : Int32 := if (kvX0_isQuestion qn q) = 0 then (-1 : Int32) else (if (kvX0_isTrue an qn q (w &&& (kvX0_allFacts fn))) = 0 then (0 : Int32) else (1 : Int32))
set_option maxHeartbeats 4000000 in
set_option maxRecDepth 100000 in
theorem kX0_holds (l : Launch) (D : va_G) (cJ : ClassId) (h a1 a2 a3 a4 a5 : Nat) (u d lw uw an : Nat → Int64) (fn qn : Nat) (sd : Int64) (q : Int32) (w : Int32) : RoI l yX0_holds wsX0_holds ({ frames := 3, cells := 0, slots := 0, locals := 67 } : Room) [.ref h, .int q, .int w] D (xW cJ h a1 a2 a3 a4 a5 u d lw uw an (nI fn) (nI qn) sd) [(cJ, .long)] (kvX0_holds an fn qn q w) := by
  refine oo_head (C := RX0) (cc := cX0_holds) (maxL := 3) (ret := (some .int)) (by decide) rfl rfl (Nat.le_of_ble_eq_true rfl) ?_
  intro p e s m below meth c hx hb hr hlocks hml hown hnm hts hpre ls hl
  have hl : lv_has ls 3 [(0, .ref h), (1, .int q), (2, .int w)] := hl
  obtain ⟨hP, hK⟩ := hpre
  have hS : va_S oo_N s.heap s.heap [] := va_S.rf
  have hin : ∀ w ∈ wsX00, w ∈ wsX0_holds := fun w h => List.mem_cons_of_mem _ (List.mem_append_right _ h)
  refine lv_aload_n hx hb dX0_holds_0 rfl (lv_at hl 0 rfl) ?_
  refine lv_iload_n hx hb dX0_holds_1 rfl (lv_at hl 1 rfl) ?_
  refine ro_calli (va_runV (As := [.int q]) (rest := []) ⟨hx, hb, hml, hown, hts⟩ (kX0_isQuestion l D cJ h a1 a2 a3 a4 a5 u d lw uw an fn qn sd q) (cwV 1 hts gX0_holds_X0_isQuestion rfl rfl rfl ok_X0_isQuestion ⟨Nat.le_of_ble_eq_true rfl, Nat.le_of_ble_eq_true rfl⟩) ⟨oo_blind, va_recv hK hP (ci := 0) (q0 := 0) rfl rfl, oo_ps hP hK [0, 1, 2, 3, 4, 5] rfl [0] rfl⟩ rfl rfl hl.1 rfl (lv_room (Nat.le_of_ble_eq_true rfl)) dX0_holds_2 ⟨Nat.le_of_ble_eq_true rfl, Nat.le_of_ble_eq_true rfl⟩) hP hS (fun H locs hP hS => ?_)
  refine lv_if_ne (tgt := 10) hx hb dX0_holds_5 (by decide) (fun c_5 => ?_) (fun c_5 => ?_)
  · refine lv_aload_n hx hb dX0_holds_10 rfl (lv_at hl 0 rfl) ?_
    refine lv_iload_n hx hb dX0_holds_11 rfl (lv_at hl 1 rfl) ?_
    refine lv_iload_n hx hb dX0_holds_12 rfl (lv_at hl 2 rfl) ?_
    refine lv_aload_n hx hb dX0_holds_13 rfl (lv_at hl 0 rfl) ?_
    refine ro_calli (va_runV (As := []) (rest := [.int w, .int q, .ref h]) ⟨hx, hb, hml, hown, hts⟩ (kX0_allFacts l D cJ h a1 a2 a3 a4 a5 u d lw uw an fn qn sd) (cwV 0 hts gX0_holds_X0_allFacts rfl rfl rfl ok_X0_allFacts ⟨Nat.le_of_ble_eq_true rfl, Nat.le_of_ble_eq_true rfl⟩) ⟨oo_blind, va_recv hK hP (ci := 0) (q0 := 0) rfl rfl, oo_ps hP hK [0, 1, 2, 3, 4, 5] rfl [0] rfl⟩ rfl rfl hl.1 rfl (lv_room (Nat.le_of_ble_eq_true rfl)) dX0_holds_14 ⟨Nat.le_of_ble_eq_true rfl, Nat.le_of_ble_eq_true rfl⟩) hP hS (fun H locs hP hS => ?_)
    refine lv_iand hx hb dX0_holds_17 ?_
    refine ro_calli (va_runV (As := [.int q, .int (w &&& (kvX0_allFacts fn))]) (rest := []) ⟨hx, hb, hml, hown, hts⟩ (kX0_isTrue l D cJ h a1 a2 a3 a4 a5 u d lw uw an fn qn sd q (w &&& (kvX0_allFacts fn))) (cwV 2 hts gX0_holds_X0_isTrue rfl rfl rfl ok_X0_isTrue ⟨Nat.le_of_ble_eq_true rfl, Nat.le_of_ble_eq_true rfl⟩) ⟨oo_blind, va_recv hK hP (ci := 0) (q0 := 0) rfl rfl, oo_ps hP hK [0, 1, 2, 3, 4, 5] rfl [0] rfl⟩ rfl rfl hl.1 rfl (lv_room (Nat.le_of_ble_eq_true rfl)) dX0_holds_18 ⟨Nat.le_of_ble_eq_true rfl, Nat.le_of_ble_eq_true rfl⟩) hP hS (fun H locs hP hS => ?_)
    refine lv_if_eq (tgt := 28) hx hb dX0_holds_21 (by decide) (fun c_21 => ?_) (fun c_21 => ?_)
    · refine lv_iconst (v := (0 : Int32)) hx hb dX0_holds_28 (by decide) ?_
      exact ro_reti hx hb hr hlocks hS (by unfold kvX0_holds; rw [if_neg c_5, if_pos c_21]) dX0_holds_29
    · refine lv_iconst (v := (1 : Int32)) hx hb dX0_holds_24 (by decide) ?_
      refine lv_goto (tgt := 29) hx hb dX0_holds_25 (by decide) ?_
      exact ro_reti hx hb hr hlocks hS (by unfold kvX0_holds; rw [if_neg c_5, if_neg c_21]) dX0_holds_29
  · refine lv_iconst (v := (-1 : Int32)) hx hb dX0_holds_8 (by decide) ?_
    exact ro_reti hx hb hr hlocks hS (by unfold kvX0_holds; rw [if_pos c_5]) dX0_holds_9
theorem ok_X0_chance : yX0_chance.cls = RX0 ∧ yX0_chance.cls ≠ "java/lang/invoke/MethodHandle" ∧ yX0_chance.cls ≠ "java/lang/invoke/VarHandle" ∧ (parseMethodDescriptor yX0_chance.desc).map (fun d => d.parameters.length) = some 2 := by decide +kernel
def kvX0_chance (d : Nat → Int64) (lw : Nat → Int64) (uw : Nat → Int64) (an : Nat → Int64) (fn : Nat) (qn : Nat) (q : Int32) (pt : Int32) : Int64 := if (kvX0_isQuestion qn q) = 0 then (-1 : Int64) else (if (kvX0_isPart pt) = 0 then (-1 : Int64) else (kvX0_lowestPart (kvX0_sumOfBoth lw uw an qn q q) (kvX0_allBut d fn (-1 : Int32)) pt))
set_option maxHeartbeats 4000000 in
set_option maxRecDepth 100000 in
theorem kX0_chance (l : Launch) (D : va_G) (cJ : ClassId) (h a1 a2 a3 a4 a5 : Nat) (u d lw uw an : Nat → Int64) (fn qn : Nat) (sd : Int64) (q : Int32) (pt : Int32) (hfn : fn ≤ 12) : RoL l yX0_chance wsX0_chance ({ frames := 3, cells := 0, slots := 0, locals := 74 } : Room) [.ref h, .int q, .int pt] D (xW cJ h a1 a2 a3 a4 a5 u d lw uw an (nI fn) (nI qn) sd) [(cJ, .long)] (kvX0_chance d lw uw an fn qn q pt) := by
  refine oo_head (C := RX0) (cc := cX0_chance) (maxL := 3) (ret := (some .long)) (by decide) rfl rfl (Nat.le_of_ble_eq_true rfl) ?_
  intro p e s m below meth c hx hb hr hlocks hml hown hnm hts hpre ls hl
  have hl : lv_has ls 3 [(0, .ref h), (1, .int q), (2, .int pt)] := hl
  obtain ⟨hP, hK⟩ := hpre
  have hS : va_S oo_N s.heap s.heap [] := va_S.rf
  have hin : ∀ w ∈ wsX00, w ∈ wsX0_chance := fun w h => List.mem_cons_of_mem _ (List.mem_append_right _ h)
  refine lv_aload_n hx hb dX0_chance_0 rfl (lv_at hl 0 rfl) ?_
  refine lv_iload_n hx hb dX0_chance_1 rfl (lv_at hl 1 rfl) ?_
  refine ro_calli (va_runV (As := [.int q]) (rest := []) ⟨hx, hb, hml, hown, hts⟩ (kX0_isQuestion l D cJ h a1 a2 a3 a4 a5 u d lw uw an fn qn sd q) (cwV 1 hts gX0_chance_X0_isQuestion rfl rfl rfl ok_X0_isQuestion ⟨Nat.le_of_ble_eq_true rfl, Nat.le_of_ble_eq_true rfl⟩) ⟨oo_blind, va_recv hK hP (ci := 0) (q0 := 0) rfl rfl, oo_ps hP hK [0, 1, 2, 3, 4, 5] rfl [0] rfl⟩ rfl rfl hl.1 rfl (lv_room (Nat.le_of_ble_eq_true rfl)) dX0_chance_2 ⟨Nat.le_of_ble_eq_true rfl, Nat.le_of_ble_eq_true rfl⟩) hP hS (fun H locs hP hS => ?_)
  refine lv_if_eq (tgt := 15) hx hb dX0_chance_5 (by decide) (fun c_5 => ?_) (fun c_5 => ?_)
  · refine lv_ldc2 hx hb hown (hts (.constantLong RX0 98 (-1)) (by decide +kernel)) dX0_chance_15 ?_
    exact ro_retl hx hb hr hlocks hS (by unfold kvX0_chance; rw [if_pos c_5]) dX0_chance_18
  · refine lv_iload_n hx hb dX0_chance_8 rfl (lv_at hl 2 rfl) ?_
    refine ro_calli (va_runS (As := [.int pt]) (rest := []) ⟨hx, hb, hml, hown, hts⟩ (kX0_isPart l D pt) (va_cwS 1 hts gX0_chance_X0_isPart rfl rfl rfl ok_X0_isPart ⟨Nat.le_of_ble_eq_true rfl, Nat.le_of_ble_eq_true rfl⟩) ⟨oo_blind, oo_ps hP hK [] rfl [] rfl⟩ rfl rfl hl.1 rfl (lv_room (Nat.le_of_ble_eq_true rfl)) dX0_chance_9 ⟨Nat.le_of_ble_eq_true rfl, Nat.le_of_ble_eq_true rfl⟩) hP hS (fun H locs hP hS => ?_)
    refine lv_if_ne (tgt := 19) hx hb dX0_chance_12 (by decide) (fun c_12 => ?_) (fun c_12 => ?_)
    · refine lv_aload_n hx hb dX0_chance_19 rfl (lv_at hl 0 rfl) ?_
      refine lv_iload_n hx hb dX0_chance_20 rfl (lv_at hl 1 rfl) ?_
      refine lv_iload_n hx hb dX0_chance_21 rfl (lv_at hl 1 rfl) ?_
      refine ro_calll (va_runV (As := [.int q, .int q]) (rest := []) ⟨hx, hb, hml, hown, hts⟩ (kX0_sumOfBoth l D cJ h a1 a2 a3 a4 a5 u d lw uw an fn qn sd q q) (cwV 2 hts gX0_chance_X0_sumOfBoth rfl rfl rfl ok_X0_sumOfBoth ⟨Nat.le_of_ble_eq_true rfl, Nat.le_of_ble_eq_true rfl⟩) ⟨oo_blind, va_recv hK hP (ci := 0) (q0 := 0) rfl rfl, oo_ps hP hK [0, 1, 2, 3, 4, 5] rfl [0] rfl⟩ rfl rfl hl.1 rfl (lv_room (Nat.le_of_ble_eq_true rfl)) dX0_chance_22 ⟨Nat.le_of_ble_eq_true rfl, Nat.le_of_ble_eq_true rfl⟩) hP hS (fun H locs hP hS => ?_)
      refine lv_aload_n hx hb dX0_chance_25 rfl (lv_at hl 0 rfl) ?_
      refine lv_iconst (v := (-1 : Int32)) hx hb dX0_chance_26 (by decide) ?_
      refine ro_calll (va_runV (As := [.int (-1 : Int32)]) (rest := [.long (kvX0_sumOfBoth lw uw an qn q q)]) ⟨hx, hb, hml, hown, hts⟩ (kX0_allBut l D cJ h a1 a2 a3 a4 a5 u d lw uw an fn qn sd (-1 : Int32) hfn) (cwV 1 hts gX0_chance_X0_allBut rfl rfl rfl ok_X0_allBut ⟨Nat.le_of_ble_eq_true rfl, Nat.le_of_ble_eq_true rfl⟩) ⟨oo_blind, va_recv hK hP (ci := 0) (q0 := 0) rfl rfl, oo_ps hP hK [0, 1, 2, 3, 4, 5] rfl [0] rfl⟩ rfl rfl hl.1 rfl (lv_room (Nat.le_of_ble_eq_true rfl)) dX0_chance_27 ⟨Nat.le_of_ble_eq_true rfl, Nat.le_of_ble_eq_true rfl⟩) hP hS (fun H locs hP hS => ?_)
      refine lv_iload_n hx hb dX0_chance_30 rfl (lv_at hl 2 rfl) ?_
      refine ro_calll (va_runS (As := [.long (kvX0_sumOfBoth lw uw an qn q q), .long (kvX0_allBut d fn (-1 : Int32)), .int pt]) (rest := []) ⟨hx, hb, hml, hown, hts⟩ (kX0_lowestPart l D (kvX0_sumOfBoth lw uw an qn q q) (kvX0_allBut d fn (-1 : Int32)) pt) (va_cwS 3 hts gX0_chance_X0_lowestPart rfl rfl rfl ok_X0_lowestPart ⟨Nat.le_of_ble_eq_true rfl, Nat.le_of_ble_eq_true rfl⟩) ⟨oo_blind, oo_ps hP hK [] rfl [] rfl⟩ rfl rfl hl.1 rfl (lv_room (Nat.le_of_ble_eq_true rfl)) dX0_chance_31 ⟨Nat.le_of_ble_eq_true rfl, Nat.le_of_ble_eq_true rfl⟩) hP hS (fun H locs hP hS => ?_)
      exact ro_retl hx hb hr hlocks hS (by unfold kvX0_chance; rw [if_neg c_5, if_neg c_12]) dX0_chance_34
    · refine lv_ldc2 hx hb hown (hts (.constantLong RX0 98 (-1)) (by decide +kernel)) dX0_chance_15 ?_
      exact ro_retl hx hb hr hlocks hS (by unfold kvX0_chance; rw [if_neg c_5, if_pos c_12]) dX0_chance_18
theorem ok_X0_influence : yX0_influence.cls = RX0 ∧ yX0_influence.cls ≠ "java/lang/invoke/MethodHandle" ∧ yX0_influence.cls ≠ "java/lang/invoke/VarHandle" ∧ (parseMethodDescriptor yX0_influence.desc).map (fun d => d.parameters.length) = some 3 := by decide +kernel
def kvX0_influence (u : Nat → Int64) (d : Nat → Int64) (lw : Nat → Int64) (uw : Nat → Int64) (an : Nat → Int64) (fn : Nat) (qn : Nat) (q : Int32) (k : Int32) (pt : Int32) : Int64 := if (kvX0_isQuestion qn q) = 0 then (0 : Int64) else (if (kvX0_isFact fn k) = 0 then (0 : Int64) else (if (kvX0_isPart pt) = 0 then (0 : Int64) else (kvX0_lowestPart ((kvX0_sumWhenSurely u d lw uw an qn q k (1 : Int32)) - (kvX0_sumWhenSurely (kvX0_put_c0 12 (kvX0_put_c0 12 u k (1 : Int32).toInt64) k (kvX0_at 12 u k)) (kvX0_put_c0 12 (kvX0_put_c0 12 d k (1 : Int64)) k (kvX0_at 12 d k)) (kl_whO (kvX0_put_c0 12 (kvX0_put_c0 12 u k (1 : Int32).toInt64) k (kvX0_at 12 u k)) (kvX0_put_c0 12 (kvX0_put_c0 12 d k (1 : Int64)) k (kvX0_at 12 d k)) (0 : Int32) (kl_whO (kvX0_put_c0 12 u k (1 : Int32).toInt64) (kvX0_put_c0 12 d k (1 : Int64)) (0 : Int32) lw 6) 6) (kl_whO (kvX0_put_c0 12 (kvX0_put_c0 12 u k (1 : Int32).toInt64) k (kvX0_at 12 u k)) (kvX0_put_c0 12 (kvX0_put_c0 12 d k (1 : Int64)) k (kvX0_at 12 d k)) (nI 6) (kl_whO (kvX0_put_c0 12 u k (1 : Int32).toInt64) (kvX0_put_c0 12 d k (1 : Int64)) (nI 6) uw 6) 6) an qn q k (0 : Int32))) (kvX0_allBut (kvX0_put_c0 12 (kvX0_put_c0 12 (kvX0_put_c0 12 (kvX0_put_c0 12 d k (1 : Int64)) k (kvX0_at 12 d k)) k (1 : Int64)) k (kvX0_at 12 (kvX0_put_c0 12 (kvX0_put_c0 12 d k (1 : Int64)) k (kvX0_at 12 d k)) k)) fn k) pt)))
def kvX0_influence_u (u : Nat → Int64) (fn : Nat) (qn : Nat) (q : Int32) (k : Int32) (pt : Int32) : Nat → Int64 := if (kvX0_isQuestion qn q) = 0 then u else (if (kvX0_isFact fn k) = 0 then u else (if (kvX0_isPart pt) = 0 then u else (kvX0_put_c0 12 (kvX0_put_c0 12 (kvX0_put_c0 12 (kvX0_put_c0 12 u k (1 : Int32).toInt64) k (kvX0_at 12 u k)) k (0 : Int32).toInt64) k (kvX0_at 12 (kvX0_put_c0 12 (kvX0_put_c0 12 u k (1 : Int32).toInt64) k (kvX0_at 12 u k)) k))))
def kvX0_influence_d (d : Nat → Int64) (fn : Nat) (qn : Nat) (q : Int32) (k : Int32) (pt : Int32) : Nat → Int64 := if (kvX0_isQuestion qn q) = 0 then d else (if (kvX0_isFact fn k) = 0 then d else (if (kvX0_isPart pt) = 0 then d else (kvX0_put_c0 12 (kvX0_put_c0 12 (kvX0_put_c0 12 (kvX0_put_c0 12 d k (1 : Int64)) k (kvX0_at 12 d k)) k (1 : Int64)) k (kvX0_at 12 (kvX0_put_c0 12 (kvX0_put_c0 12 d k (1 : Int64)) k (kvX0_at 12 d k)) k))))
def kvX0_influence_lw (u : Nat → Int64) (d : Nat → Int64) (lw : Nat → Int64) (fn : Nat) (qn : Nat) (q : Int32) (k : Int32) (pt : Int32) : Nat → Int64 := if (kvX0_isQuestion qn q) = 0 then lw else (if (kvX0_isFact fn k) = 0 then lw else (if (kvX0_isPart pt) = 0 then lw else (kl_whO (kvX0_put_c0 12 (kvX0_put_c0 12 (kvX0_put_c0 12 (kvX0_put_c0 12 u k (1 : Int32).toInt64) k (kvX0_at 12 u k)) k (0 : Int32).toInt64) k (kvX0_at 12 (kvX0_put_c0 12 (kvX0_put_c0 12 u k (1 : Int32).toInt64) k (kvX0_at 12 u k)) k)) (kvX0_put_c0 12 (kvX0_put_c0 12 (kvX0_put_c0 12 (kvX0_put_c0 12 d k (1 : Int64)) k (kvX0_at 12 d k)) k (1 : Int64)) k (kvX0_at 12 (kvX0_put_c0 12 (kvX0_put_c0 12 d k (1 : Int64)) k (kvX0_at 12 d k)) k)) (0 : Int32) (kl_whO (kvX0_put_c0 12 (kvX0_put_c0 12 (kvX0_put_c0 12 u k (1 : Int32).toInt64) k (kvX0_at 12 u k)) k (0 : Int32).toInt64) (kvX0_put_c0 12 (kvX0_put_c0 12 (kvX0_put_c0 12 d k (1 : Int64)) k (kvX0_at 12 d k)) k (1 : Int64)) (0 : Int32) (kl_whO (kvX0_put_c0 12 (kvX0_put_c0 12 u k (1 : Int32).toInt64) k (kvX0_at 12 u k)) (kvX0_put_c0 12 (kvX0_put_c0 12 d k (1 : Int64)) k (kvX0_at 12 d k)) (0 : Int32) (kl_whO (kvX0_put_c0 12 u k (1 : Int32).toInt64) (kvX0_put_c0 12 d k (1 : Int64)) (0 : Int32) lw 6) 6) 6) 6)))
def kvX0_influence_uw (u : Nat → Int64) (d : Nat → Int64) (uw : Nat → Int64) (fn : Nat) (qn : Nat) (q : Int32) (k : Int32) (pt : Int32) : Nat → Int64 := if (kvX0_isQuestion qn q) = 0 then uw else (if (kvX0_isFact fn k) = 0 then uw else (if (kvX0_isPart pt) = 0 then uw else (kl_whO (kvX0_put_c0 12 (kvX0_put_c0 12 (kvX0_put_c0 12 (kvX0_put_c0 12 u k (1 : Int32).toInt64) k (kvX0_at 12 u k)) k (0 : Int32).toInt64) k (kvX0_at 12 (kvX0_put_c0 12 (kvX0_put_c0 12 u k (1 : Int32).toInt64) k (kvX0_at 12 u k)) k)) (kvX0_put_c0 12 (kvX0_put_c0 12 (kvX0_put_c0 12 (kvX0_put_c0 12 d k (1 : Int64)) k (kvX0_at 12 d k)) k (1 : Int64)) k (kvX0_at 12 (kvX0_put_c0 12 (kvX0_put_c0 12 d k (1 : Int64)) k (kvX0_at 12 d k)) k)) (nI 6) (kl_whO (kvX0_put_c0 12 (kvX0_put_c0 12 (kvX0_put_c0 12 u k (1 : Int32).toInt64) k (kvX0_at 12 u k)) k (0 : Int32).toInt64) (kvX0_put_c0 12 (kvX0_put_c0 12 (kvX0_put_c0 12 d k (1 : Int64)) k (kvX0_at 12 d k)) k (1 : Int64)) (nI 6) (kl_whO (kvX0_put_c0 12 (kvX0_put_c0 12 u k (1 : Int32).toInt64) k (kvX0_at 12 u k)) (kvX0_put_c0 12 (kvX0_put_c0 12 d k (1 : Int64)) k (kvX0_at 12 d k)) (nI 6) (kl_whO (kvX0_put_c0 12 u k (1 : Int32).toInt64) (kvX0_put_c0 12 d k (1 : Int64)) (nI 6) uw 6) 6) 6) 6)))
set_option maxHeartbeats 4000000 in
set_option maxRecDepth 100000 in
theorem kX0_influence (l : Launch) (D : va_G) (cJ : ClassId) (h a1 a2 a3 a4 a5 : Nat) (u d lw uw an : Nat → Int64) (fn qn : Nat) (sd : Int64) (q : Int32) (k : Int32) (pt : Int32) (hfn : fn ≤ 12) : MuL l yX0_influence wsX0_influence ({ frames := 5, cells := 0, slots := 0, locals := 128 } : Room) [.ref h, .int q, .int k, .int pt] D (xW cJ h a1 a2 a3 a4 a5 u d lw uw an (nI fn) (nI qn) sd) [(cJ, .long)] (xW cJ h a1 a2 a3 a4 a5 (kvX0_influence_u u fn qn q k pt) (kvX0_influence_d d fn qn q k pt) (kvX0_influence_lw u d lw fn qn q k pt) (kvX0_influence_uw u d uw fn qn q k pt) an (nI fn) (nI qn) sd) (kvX0_influence u d lw uw an fn qn q k pt) := by
  intro sz
  refine oo_head (C := RX0) (cc := cX0_influence) (maxL := 6) (ret := (some .long)) (by decide) rfl rfl (Nat.le_of_ble_eq_true rfl) ?_
  intro p e s m below meth c hx hb hr hlocks hml hown hnm hts hpre ls hl
  have hl : lv_has ls 6 [(0, .ref h), (1, .int q), (2, .int k), (3, .int pt)] := hl
  obtain ⟨rfl, hP, hK, hD0⟩ := hpre
  have hD := hD0.self (sz := s.heap.size)
  have hA := oo_A (xW cJ h a1 a2 a3 a4 a5 u d lw uw an (nI fn) (nI qn) sd) s
  have hS : va_S (va_A (xW cJ h a1 a2 a3 a4 a5 u d lw uw an (nI fn) (nI qn) sd) s.heap.size) s.heap s.heap [] := va_S.rf
  have hin : ∀ w ∈ wsX00, w ∈ wsX0_influence := fun w h => List.mem_cons_of_mem _ (List.mem_append_right _ h)
  refine lv_aload_n hx hb dX0_influence_0 rfl (lv_at hl 0 rfl) ?_
  refine lv_iload_n hx hb dX0_influence_1 rfl (lv_at hl 1 rfl) ?_
  refine ro_calli (va_runV (As := [.int q]) (rest := []) ⟨hx, hb, hml, hown, hts⟩ (kX0_isQuestion l D cJ h a1 a2 a3 a4 a5 u d lw uw an fn qn sd q) (cwV 1 hts gX0_influence_X0_isQuestion rfl rfl rfl ok_X0_isQuestion ⟨Nat.le_of_ble_eq_true rfl, Nat.le_of_ble_eq_true rfl⟩) ⟨oo_blind, va_recv hK hP (ci := 0) (q0 := 0) rfl rfl, oo_ps hP hK [0, 1, 2, 3, 4, 5] rfl [0] rfl⟩ rfl rfl hl.1 rfl (lv_room (Nat.le_of_ble_eq_true rfl)) dX0_influence_2 ⟨Nat.le_of_ble_eq_true rfl, Nat.le_of_ble_eq_true rfl⟩) hP hS (fun H locs hP hS => ?_)
  refine lv_if_eq (tgt := 23) hx hb dX0_influence_5 (by decide) (fun c_5 => ?_) (fun c_5 => ?_)
  · refine lv_lconst (v := (0 : Int64)) hx hb dX0_influence_23 (by decide) ?_
    have hP := Eq.mp (congrArg (fun z9 => va_P D vwCl (xW cJ h a1 a2 a3 a4 a5 z9 d lw uw an (nI fn) (nI qn) sd) H) (show u = kvX0_influence_u u fn qn q k pt from (by unfold kvX0_influence_u; rw [if_pos c_5]))) hP
    have hP := Eq.mp (congrArg (fun z9 => va_P D vwCl (xW cJ h a1 a2 a3 a4 a5 (kvX0_influence_u u fn qn q k pt) z9 lw uw an (nI fn) (nI qn) sd) H) (show d = kvX0_influence_d d fn qn q k pt from (by unfold kvX0_influence_d; rw [if_pos c_5]))) hP
    have hP := Eq.mp (congrArg (fun z9 => va_P D vwCl (xW cJ h a1 a2 a3 a4 a5 (kvX0_influence_u u fn qn q k pt) (kvX0_influence_d d fn qn q k pt) z9 uw an (nI fn) (nI qn) sd) H) (show lw = kvX0_influence_lw u d lw fn qn q k pt from (by unfold kvX0_influence_lw; rw [if_pos c_5]))) hP
    have hP := Eq.mp (congrArg (fun z9 => va_P D vwCl (xW cJ h a1 a2 a3 a4 a5 (kvX0_influence_u u fn qn q k pt) (kvX0_influence_d d fn qn q k pt) (kvX0_influence_lw u d lw fn qn q k pt) z9 an (nI fn) (nI qn) sd) H) (show uw = kvX0_influence_uw u d uw fn qn q k pt from (by unfold kvX0_influence_uw; rw [if_pos c_5]))) hP
    have hP : va_P D vwCl (xW cJ h a1 a2 a3 a4 a5 (kvX0_influence_u u fn qn q k pt) (kvX0_influence_d d fn qn q k pt) (kvX0_influence_lw u d lw fn qn q k pt) (kvX0_influence_uw u d uw fn qn q k pt) an (nI fn) (nI qn) sd) H := hP
    have hD : va_D _ (xW cJ h a1 a2 a3 a4 a5 (kvX0_influence_u u fn qn q k pt) (kvX0_influence_d d fn qn q k pt) (kvX0_influence_lw u d lw fn qn q k pt) (kvX0_influence_uw u d uw fn qn q k pt) an (nI fn) (nI qn) sd) := oo_Dre hD rfl
    exact mu_retl hx hb hr hlocks hP hD hS (by unfold kvX0_influence; rw [if_pos c_5]) dX0_influence_24
  · refine lv_aload_n hx hb dX0_influence_8 rfl (lv_at hl 0 rfl) ?_
    refine lv_iload_n hx hb dX0_influence_9 rfl (lv_at hl 2 rfl) ?_
    refine ro_calli (va_runV (As := [.int k]) (rest := []) ⟨hx, hb, hml, hown, hts⟩ (kX0_isFact l D cJ h a1 a2 a3 a4 a5 u d lw uw an fn qn sd k) (cwV 1 hts gX0_influence_X0_isFact rfl rfl rfl ok_X0_isFact ⟨Nat.le_of_ble_eq_true rfl, Nat.le_of_ble_eq_true rfl⟩) ⟨oo_blind, va_recv hK hP (ci := 0) (q0 := 0) rfl rfl, oo_ps hP hK [0, 1, 2, 3, 4, 5] rfl [0] rfl⟩ rfl rfl hl.1 rfl (lv_room (Nat.le_of_ble_eq_true rfl)) dX0_influence_10 ⟨Nat.le_of_ble_eq_true rfl, Nat.le_of_ble_eq_true rfl⟩) hP hS (fun H locs hP hS => ?_)
    refine lv_if_eq (tgt := 23) hx hb dX0_influence_13 (by decide) (fun c_13 => ?_) (fun c_13 => ?_)
    · refine lv_lconst (v := (0 : Int64)) hx hb dX0_influence_23 (by decide) ?_
      have hP := Eq.mp (congrArg (fun z9 => va_P D vwCl (xW cJ h a1 a2 a3 a4 a5 z9 d lw uw an (nI fn) (nI qn) sd) H) (show u = kvX0_influence_u u fn qn q k pt from (by unfold kvX0_influence_u; rw [if_neg c_5, if_pos c_13]))) hP
      have hP := Eq.mp (congrArg (fun z9 => va_P D vwCl (xW cJ h a1 a2 a3 a4 a5 (kvX0_influence_u u fn qn q k pt) z9 lw uw an (nI fn) (nI qn) sd) H) (show d = kvX0_influence_d d fn qn q k pt from (by unfold kvX0_influence_d; rw [if_neg c_5, if_pos c_13]))) hP
      have hP := Eq.mp (congrArg (fun z9 => va_P D vwCl (xW cJ h a1 a2 a3 a4 a5 (kvX0_influence_u u fn qn q k pt) (kvX0_influence_d d fn qn q k pt) z9 uw an (nI fn) (nI qn) sd) H) (show lw = kvX0_influence_lw u d lw fn qn q k pt from (by unfold kvX0_influence_lw; rw [if_neg c_5, if_pos c_13]))) hP
      have hP := Eq.mp (congrArg (fun z9 => va_P D vwCl (xW cJ h a1 a2 a3 a4 a5 (kvX0_influence_u u fn qn q k pt) (kvX0_influence_d d fn qn q k pt) (kvX0_influence_lw u d lw fn qn q k pt) z9 an (nI fn) (nI qn) sd) H) (show uw = kvX0_influence_uw u d uw fn qn q k pt from (by unfold kvX0_influence_uw; rw [if_neg c_5, if_pos c_13]))) hP
      have hP : va_P D vwCl (xW cJ h a1 a2 a3 a4 a5 (kvX0_influence_u u fn qn q k pt) (kvX0_influence_d d fn qn q k pt) (kvX0_influence_lw u d lw fn qn q k pt) (kvX0_influence_uw u d uw fn qn q k pt) an (nI fn) (nI qn) sd) H := hP
      have hD : va_D _ (xW cJ h a1 a2 a3 a4 a5 (kvX0_influence_u u fn qn q k pt) (kvX0_influence_d d fn qn q k pt) (kvX0_influence_lw u d lw fn qn q k pt) (kvX0_influence_uw u d uw fn qn q k pt) an (nI fn) (nI qn) sd) := oo_Dre hD rfl
      exact mu_retl hx hb hr hlocks hP hD hS (by unfold kvX0_influence; rw [if_neg c_5, if_pos c_13]) dX0_influence_24
    · refine lv_iload_n hx hb dX0_influence_16 rfl (lv_at hl 3 rfl) ?_
      refine ro_calli (va_runS (As := [.int pt]) (rest := []) ⟨hx, hb, hml, hown, hts⟩ (kX0_isPart l D pt) (va_cwS 1 hts gX0_influence_X0_isPart rfl rfl rfl ok_X0_isPart ⟨Nat.le_of_ble_eq_true rfl, Nat.le_of_ble_eq_true rfl⟩) ⟨oo_blind, oo_ps hP hK [] rfl [] rfl⟩ rfl rfl hl.1 rfl (lv_room (Nat.le_of_ble_eq_true rfl)) dX0_influence_17 ⟨Nat.le_of_ble_eq_true rfl, Nat.le_of_ble_eq_true rfl⟩) hP hS (fun H locs hP hS => ?_)
      refine lv_if_ne (tgt := 25) hx hb dX0_influence_20 (by decide) (fun c_20 => ?_) (fun c_20 => ?_)
      · refine lv_aload_n hx hb dX0_influence_25 rfl (lv_at hl 0 rfl) ?_
        refine lv_iload_n hx hb dX0_influence_26 rfl (lv_at hl 1 rfl) ?_
        refine lv_iload_n hx hb dX0_influence_27 rfl (lv_at hl 2 rfl) ?_
        refine lv_iconst (v := (1 : Int32)) hx hb dX0_influence_28 (by decide) ?_
        refine mu_calll (va_runV (As := [.int q, .int k, .int (1 : Int32)]) (rest := []) ⟨hx, hb, hml, hown, hts⟩ (kX0_sumWhenSurely l D cJ h a1 a2 a3 a4 a5 u d lw uw an fn qn sd q k (1 : Int32) _) (cwV 3 hts gX0_influence_X0_sumWhenSurely rfl rfl rfl ok_X0_sumWhenSurely ⟨Nat.le_of_ble_eq_true rfl, Nat.le_of_ble_eq_true rfl⟩) ⟨oo_blindM, va_recv hK hP (ci := 0) (q0 := 0) rfl rfl, oo_psM hP hD hK [0, 1, 2, 3, 4, 5] rfl rfl [0] rfl⟩ rfl rfl hl.1 rfl (lv_room (Nat.le_of_ble_eq_true rfl)) dX0_influence_29 ⟨Nat.le_of_ble_eq_true rfl, Nat.le_of_ble_eq_true rfl⟩) hP hD hS hA [0, 1, 2, 3, 4, 5] rfl rfl (fun H locs hP hD hS => ?_)
        have hP : va_P D vwCl (xW cJ h a1 a2 a3 a4 a5 (kvX0_put_c0 12 (kvX0_put_c0 12 u k (1 : Int32).toInt64) k (kvX0_at 12 u k)) (kvX0_put_c0 12 (kvX0_put_c0 12 d k (1 : Int64)) k (kvX0_at 12 d k)) (kl_whO (kvX0_put_c0 12 (kvX0_put_c0 12 u k (1 : Int32).toInt64) k (kvX0_at 12 u k)) (kvX0_put_c0 12 (kvX0_put_c0 12 d k (1 : Int64)) k (kvX0_at 12 d k)) (0 : Int32) (kl_whO (kvX0_put_c0 12 u k (1 : Int32).toInt64) (kvX0_put_c0 12 d k (1 : Int64)) (0 : Int32) lw 6) 6) (kl_whO (kvX0_put_c0 12 (kvX0_put_c0 12 u k (1 : Int32).toInt64) k (kvX0_at 12 u k)) (kvX0_put_c0 12 (kvX0_put_c0 12 d k (1 : Int64)) k (kvX0_at 12 d k)) (nI 6) (kl_whO (kvX0_put_c0 12 u k (1 : Int32).toInt64) (kvX0_put_c0 12 d k (1 : Int64)) (nI 6) uw 6) 6) an (nI fn) (nI qn) sd) H := hP
        have hD : va_D _ (xW cJ h a1 a2 a3 a4 a5 (kvX0_put_c0 12 (kvX0_put_c0 12 u k (1 : Int32).toInt64) k (kvX0_at 12 u k)) (kvX0_put_c0 12 (kvX0_put_c0 12 d k (1 : Int64)) k (kvX0_at 12 d k)) (kl_whO (kvX0_put_c0 12 (kvX0_put_c0 12 u k (1 : Int32).toInt64) k (kvX0_at 12 u k)) (kvX0_put_c0 12 (kvX0_put_c0 12 d k (1 : Int64)) k (kvX0_at 12 d k)) (0 : Int32) (kl_whO (kvX0_put_c0 12 u k (1 : Int32).toInt64) (kvX0_put_c0 12 d k (1 : Int64)) (0 : Int32) lw 6) 6) (kl_whO (kvX0_put_c0 12 (kvX0_put_c0 12 u k (1 : Int32).toInt64) k (kvX0_at 12 u k)) (kvX0_put_c0 12 (kvX0_put_c0 12 d k (1 : Int64)) k (kvX0_at 12 d k)) (nI 6) (kl_whO (kvX0_put_c0 12 u k (1 : Int32).toInt64) (kvX0_put_c0 12 d k (1 : Int64)) (nI 6) uw 6) 6) an (nI fn) (nI qn) sd) := hD
        refine lv_aload_n hx hb dX0_influence_32 rfl (lv_at hl 0 rfl) ?_
        refine lv_iload_n hx hb dX0_influence_33 rfl (lv_at hl 1 rfl) ?_
        refine lv_iload_n hx hb dX0_influence_34 rfl (lv_at hl 2 rfl) ?_
        refine lv_iconst (v := (0 : Int32)) hx hb dX0_influence_35 (by decide) ?_
        refine mu_calll (va_runV (As := [.int q, .int k, .int (0 : Int32)]) (rest := [.long (kvX0_sumWhenSurely u d lw uw an qn q k (1 : Int32))]) ⟨hx, hb, hml, hown, hts⟩ (kX0_sumWhenSurely l D cJ h a1 a2 a3 a4 a5 (kvX0_put_c0 12 (kvX0_put_c0 12 u k (1 : Int32).toInt64) k (kvX0_at 12 u k)) (kvX0_put_c0 12 (kvX0_put_c0 12 d k (1 : Int64)) k (kvX0_at 12 d k)) (kl_whO (kvX0_put_c0 12 (kvX0_put_c0 12 u k (1 : Int32).toInt64) k (kvX0_at 12 u k)) (kvX0_put_c0 12 (kvX0_put_c0 12 d k (1 : Int64)) k (kvX0_at 12 d k)) (0 : Int32) (kl_whO (kvX0_put_c0 12 u k (1 : Int32).toInt64) (kvX0_put_c0 12 d k (1 : Int64)) (0 : Int32) lw 6) 6) (kl_whO (kvX0_put_c0 12 (kvX0_put_c0 12 u k (1 : Int32).toInt64) k (kvX0_at 12 u k)) (kvX0_put_c0 12 (kvX0_put_c0 12 d k (1 : Int64)) k (kvX0_at 12 d k)) (nI 6) (kl_whO (kvX0_put_c0 12 u k (1 : Int32).toInt64) (kvX0_put_c0 12 d k (1 : Int64)) (nI 6) uw 6) 6) an fn qn sd q k (0 : Int32) _) (cwV 3 hts gX0_influence_X0_sumWhenSurely rfl rfl rfl ok_X0_sumWhenSurely ⟨Nat.le_of_ble_eq_true rfl, Nat.le_of_ble_eq_true rfl⟩) ⟨oo_blindM, va_recv hK hP (ci := 0) (q0 := 0) rfl rfl, oo_psM hP hD hK [0, 1, 2, 3, 4, 5] rfl rfl [0] rfl⟩ rfl rfl hl.1 rfl (lv_room (Nat.le_of_ble_eq_true rfl)) dX0_influence_36 ⟨Nat.le_of_ble_eq_true rfl, Nat.le_of_ble_eq_true rfl⟩) hP hD hS hA [0, 1, 2, 3, 4, 5] rfl rfl (fun H locs hP hD hS => ?_)
        have hP : va_P D vwCl (xW cJ h a1 a2 a3 a4 a5 (kvX0_put_c0 12 (kvX0_put_c0 12 (kvX0_put_c0 12 (kvX0_put_c0 12 u k (1 : Int32).toInt64) k (kvX0_at 12 u k)) k (0 : Int32).toInt64) k (kvX0_at 12 (kvX0_put_c0 12 (kvX0_put_c0 12 u k (1 : Int32).toInt64) k (kvX0_at 12 u k)) k)) (kvX0_put_c0 12 (kvX0_put_c0 12 (kvX0_put_c0 12 (kvX0_put_c0 12 d k (1 : Int64)) k (kvX0_at 12 d k)) k (1 : Int64)) k (kvX0_at 12 (kvX0_put_c0 12 (kvX0_put_c0 12 d k (1 : Int64)) k (kvX0_at 12 d k)) k)) (kl_whO (kvX0_put_c0 12 (kvX0_put_c0 12 (kvX0_put_c0 12 (kvX0_put_c0 12 u k (1 : Int32).toInt64) k (kvX0_at 12 u k)) k (0 : Int32).toInt64) k (kvX0_at 12 (kvX0_put_c0 12 (kvX0_put_c0 12 u k (1 : Int32).toInt64) k (kvX0_at 12 u k)) k)) (kvX0_put_c0 12 (kvX0_put_c0 12 (kvX0_put_c0 12 (kvX0_put_c0 12 d k (1 : Int64)) k (kvX0_at 12 d k)) k (1 : Int64)) k (kvX0_at 12 (kvX0_put_c0 12 (kvX0_put_c0 12 d k (1 : Int64)) k (kvX0_at 12 d k)) k)) (0 : Int32) (kl_whO (kvX0_put_c0 12 (kvX0_put_c0 12 (kvX0_put_c0 12 u k (1 : Int32).toInt64) k (kvX0_at 12 u k)) k (0 : Int32).toInt64) (kvX0_put_c0 12 (kvX0_put_c0 12 (kvX0_put_c0 12 d k (1 : Int64)) k (kvX0_at 12 d k)) k (1 : Int64)) (0 : Int32) (kl_whO (kvX0_put_c0 12 (kvX0_put_c0 12 u k (1 : Int32).toInt64) k (kvX0_at 12 u k)) (kvX0_put_c0 12 (kvX0_put_c0 12 d k (1 : Int64)) k (kvX0_at 12 d k)) (0 : Int32) (kl_whO (kvX0_put_c0 12 u k (1 : Int32).toInt64) (kvX0_put_c0 12 d k (1 : Int64)) (0 : Int32) lw 6) 6) 6) 6) (kl_whO (kvX0_put_c0 12 (kvX0_put_c0 12 (kvX0_put_c0 12 (kvX0_put_c0 12 u k (1 : Int32).toInt64) k (kvX0_at 12 u k)) k (0 : Int32).toInt64) k (kvX0_at 12 (kvX0_put_c0 12 (kvX0_put_c0 12 u k (1 : Int32).toInt64) k (kvX0_at 12 u k)) k)) (kvX0_put_c0 12 (kvX0_put_c0 12 (kvX0_put_c0 12 (kvX0_put_c0 12 d k (1 : Int64)) k (kvX0_at 12 d k)) k (1 : Int64)) k (kvX0_at 12 (kvX0_put_c0 12 (kvX0_put_c0 12 d k (1 : Int64)) k (kvX0_at 12 d k)) k)) (nI 6) (kl_whO (kvX0_put_c0 12 (kvX0_put_c0 12 (kvX0_put_c0 12 u k (1 : Int32).toInt64) k (kvX0_at 12 u k)) k (0 : Int32).toInt64) (kvX0_put_c0 12 (kvX0_put_c0 12 (kvX0_put_c0 12 d k (1 : Int64)) k (kvX0_at 12 d k)) k (1 : Int64)) (nI 6) (kl_whO (kvX0_put_c0 12 (kvX0_put_c0 12 u k (1 : Int32).toInt64) k (kvX0_at 12 u k)) (kvX0_put_c0 12 (kvX0_put_c0 12 d k (1 : Int64)) k (kvX0_at 12 d k)) (nI 6) (kl_whO (kvX0_put_c0 12 u k (1 : Int32).toInt64) (kvX0_put_c0 12 d k (1 : Int64)) (nI 6) uw 6) 6) 6) 6) an (nI fn) (nI qn) sd) H := hP
        have hD : va_D _ (xW cJ h a1 a2 a3 a4 a5 (kvX0_put_c0 12 (kvX0_put_c0 12 (kvX0_put_c0 12 (kvX0_put_c0 12 u k (1 : Int32).toInt64) k (kvX0_at 12 u k)) k (0 : Int32).toInt64) k (kvX0_at 12 (kvX0_put_c0 12 (kvX0_put_c0 12 u k (1 : Int32).toInt64) k (kvX0_at 12 u k)) k)) (kvX0_put_c0 12 (kvX0_put_c0 12 (kvX0_put_c0 12 (kvX0_put_c0 12 d k (1 : Int64)) k (kvX0_at 12 d k)) k (1 : Int64)) k (kvX0_at 12 (kvX0_put_c0 12 (kvX0_put_c0 12 d k (1 : Int64)) k (kvX0_at 12 d k)) k)) (kl_whO (kvX0_put_c0 12 (kvX0_put_c0 12 (kvX0_put_c0 12 (kvX0_put_c0 12 u k (1 : Int32).toInt64) k (kvX0_at 12 u k)) k (0 : Int32).toInt64) k (kvX0_at 12 (kvX0_put_c0 12 (kvX0_put_c0 12 u k (1 : Int32).toInt64) k (kvX0_at 12 u k)) k)) (kvX0_put_c0 12 (kvX0_put_c0 12 (kvX0_put_c0 12 (kvX0_put_c0 12 d k (1 : Int64)) k (kvX0_at 12 d k)) k (1 : Int64)) k (kvX0_at 12 (kvX0_put_c0 12 (kvX0_put_c0 12 d k (1 : Int64)) k (kvX0_at 12 d k)) k)) (0 : Int32) (kl_whO (kvX0_put_c0 12 (kvX0_put_c0 12 (kvX0_put_c0 12 u k (1 : Int32).toInt64) k (kvX0_at 12 u k)) k (0 : Int32).toInt64) (kvX0_put_c0 12 (kvX0_put_c0 12 (kvX0_put_c0 12 d k (1 : Int64)) k (kvX0_at 12 d k)) k (1 : Int64)) (0 : Int32) (kl_whO (kvX0_put_c0 12 (kvX0_put_c0 12 u k (1 : Int32).toInt64) k (kvX0_at 12 u k)) (kvX0_put_c0 12 (kvX0_put_c0 12 d k (1 : Int64)) k (kvX0_at 12 d k)) (0 : Int32) (kl_whO (kvX0_put_c0 12 u k (1 : Int32).toInt64) (kvX0_put_c0 12 d k (1 : Int64)) (0 : Int32) lw 6) 6) 6) 6) (kl_whO (kvX0_put_c0 12 (kvX0_put_c0 12 (kvX0_put_c0 12 (kvX0_put_c0 12 u k (1 : Int32).toInt64) k (kvX0_at 12 u k)) k (0 : Int32).toInt64) k (kvX0_at 12 (kvX0_put_c0 12 (kvX0_put_c0 12 u k (1 : Int32).toInt64) k (kvX0_at 12 u k)) k)) (kvX0_put_c0 12 (kvX0_put_c0 12 (kvX0_put_c0 12 (kvX0_put_c0 12 d k (1 : Int64)) k (kvX0_at 12 d k)) k (1 : Int64)) k (kvX0_at 12 (kvX0_put_c0 12 (kvX0_put_c0 12 d k (1 : Int64)) k (kvX0_at 12 d k)) k)) (nI 6) (kl_whO (kvX0_put_c0 12 (kvX0_put_c0 12 (kvX0_put_c0 12 u k (1 : Int32).toInt64) k (kvX0_at 12 u k)) k (0 : Int32).toInt64) (kvX0_put_c0 12 (kvX0_put_c0 12 (kvX0_put_c0 12 d k (1 : Int64)) k (kvX0_at 12 d k)) k (1 : Int64)) (nI 6) (kl_whO (kvX0_put_c0 12 (kvX0_put_c0 12 u k (1 : Int32).toInt64) k (kvX0_at 12 u k)) (kvX0_put_c0 12 (kvX0_put_c0 12 d k (1 : Int64)) k (kvX0_at 12 d k)) (nI 6) (kl_whO (kvX0_put_c0 12 u k (1 : Int32).toInt64) (kvX0_put_c0 12 d k (1 : Int64)) (nI 6) uw 6) 6) 6) 6) an (nI fn) (nI qn) sd) := hD
        refine lv_lsub hx hb dX0_influence_39 ?_
        refine lv_lstore (lv' := [(4, .long ((kvX0_sumWhenSurely u d lw uw an qn q k (1 : Int32)) - (kvX0_sumWhenSurely (kvX0_put_c0 12 (kvX0_put_c0 12 u k (1 : Int32).toInt64) k (kvX0_at 12 u k)) (kvX0_put_c0 12 (kvX0_put_c0 12 d k (1 : Int64)) k (kvX0_at 12 d k)) (kl_whO (kvX0_put_c0 12 (kvX0_put_c0 12 u k (1 : Int32).toInt64) k (kvX0_at 12 u k)) (kvX0_put_c0 12 (kvX0_put_c0 12 d k (1 : Int64)) k (kvX0_at 12 d k)) (0 : Int32) (kl_whO (kvX0_put_c0 12 u k (1 : Int32).toInt64) (kvX0_put_c0 12 d k (1 : Int64)) (0 : Int32) lw 6) 6) (kl_whO (kvX0_put_c0 12 (kvX0_put_c0 12 u k (1 : Int32).toInt64) k (kvX0_at 12 u k)) (kvX0_put_c0 12 (kvX0_put_c0 12 d k (1 : Int64)) k (kvX0_at 12 d k)) (nI 6) (kl_whO (kvX0_put_c0 12 u k (1 : Int32).toInt64) (kvX0_put_c0 12 d k (1 : Int64)) (nI 6) uw 6) 6) an qn q k (0 : Int32)))), (0, .ref h), (1, .int q), (2, .int k), (3, .int pt)]) hx hb dX0_influence_40 hl (by decide) rfl (fun ls hl => ?_)
        refine lv_lload hx hb dX0_influence_42 (lv_at hl 0 rfl) ?_
        refine lv_aload_n hx hb dX0_influence_44 rfl (lv_at hl 1 rfl) ?_
        refine lv_iload_n hx hb dX0_influence_45 rfl (lv_at hl 3 rfl) ?_
        refine ro_calll (va_runV (As := [.int k]) (rest := [.long ((kvX0_sumWhenSurely u d lw uw an qn q k (1 : Int32)) - (kvX0_sumWhenSurely (kvX0_put_c0 12 (kvX0_put_c0 12 u k (1 : Int32).toInt64) k (kvX0_at 12 u k)) (kvX0_put_c0 12 (kvX0_put_c0 12 d k (1 : Int64)) k (kvX0_at 12 d k)) (kl_whO (kvX0_put_c0 12 (kvX0_put_c0 12 u k (1 : Int32).toInt64) k (kvX0_at 12 u k)) (kvX0_put_c0 12 (kvX0_put_c0 12 d k (1 : Int64)) k (kvX0_at 12 d k)) (0 : Int32) (kl_whO (kvX0_put_c0 12 u k (1 : Int32).toInt64) (kvX0_put_c0 12 d k (1 : Int64)) (0 : Int32) lw 6) 6) (kl_whO (kvX0_put_c0 12 (kvX0_put_c0 12 u k (1 : Int32).toInt64) k (kvX0_at 12 u k)) (kvX0_put_c0 12 (kvX0_put_c0 12 d k (1 : Int64)) k (kvX0_at 12 d k)) (nI 6) (kl_whO (kvX0_put_c0 12 u k (1 : Int32).toInt64) (kvX0_put_c0 12 d k (1 : Int64)) (nI 6) uw 6) 6) an qn q k (0 : Int32)))]) ⟨hx, hb, hml, hown, hts⟩ (kX0_allBut l D cJ h a1 a2 a3 a4 a5 (kvX0_put_c0 12 (kvX0_put_c0 12 (kvX0_put_c0 12 (kvX0_put_c0 12 u k (1 : Int32).toInt64) k (kvX0_at 12 u k)) k (0 : Int32).toInt64) k (kvX0_at 12 (kvX0_put_c0 12 (kvX0_put_c0 12 u k (1 : Int32).toInt64) k (kvX0_at 12 u k)) k)) (kvX0_put_c0 12 (kvX0_put_c0 12 (kvX0_put_c0 12 (kvX0_put_c0 12 d k (1 : Int64)) k (kvX0_at 12 d k)) k (1 : Int64)) k (kvX0_at 12 (kvX0_put_c0 12 (kvX0_put_c0 12 d k (1 : Int64)) k (kvX0_at 12 d k)) k)) (kl_whO (kvX0_put_c0 12 (kvX0_put_c0 12 (kvX0_put_c0 12 (kvX0_put_c0 12 u k (1 : Int32).toInt64) k (kvX0_at 12 u k)) k (0 : Int32).toInt64) k (kvX0_at 12 (kvX0_put_c0 12 (kvX0_put_c0 12 u k (1 : Int32).toInt64) k (kvX0_at 12 u k)) k)) (kvX0_put_c0 12 (kvX0_put_c0 12 (kvX0_put_c0 12 (kvX0_put_c0 12 d k (1 : Int64)) k (kvX0_at 12 d k)) k (1 : Int64)) k (kvX0_at 12 (kvX0_put_c0 12 (kvX0_put_c0 12 d k (1 : Int64)) k (kvX0_at 12 d k)) k)) (0 : Int32) (kl_whO (kvX0_put_c0 12 (kvX0_put_c0 12 (kvX0_put_c0 12 u k (1 : Int32).toInt64) k (kvX0_at 12 u k)) k (0 : Int32).toInt64) (kvX0_put_c0 12 (kvX0_put_c0 12 (kvX0_put_c0 12 d k (1 : Int64)) k (kvX0_at 12 d k)) k (1 : Int64)) (0 : Int32) (kl_whO (kvX0_put_c0 12 (kvX0_put_c0 12 u k (1 : Int32).toInt64) k (kvX0_at 12 u k)) (kvX0_put_c0 12 (kvX0_put_c0 12 d k (1 : Int64)) k (kvX0_at 12 d k)) (0 : Int32) (kl_whO (kvX0_put_c0 12 u k (1 : Int32).toInt64) (kvX0_put_c0 12 d k (1 : Int64)) (0 : Int32) lw 6) 6) 6) 6) (kl_whO (kvX0_put_c0 12 (kvX0_put_c0 12 (kvX0_put_c0 12 (kvX0_put_c0 12 u k (1 : Int32).toInt64) k (kvX0_at 12 u k)) k (0 : Int32).toInt64) k (kvX0_at 12 (kvX0_put_c0 12 (kvX0_put_c0 12 u k (1 : Int32).toInt64) k (kvX0_at 12 u k)) k)) (kvX0_put_c0 12 (kvX0_put_c0 12 (kvX0_put_c0 12 (kvX0_put_c0 12 d k (1 : Int64)) k (kvX0_at 12 d k)) k (1 : Int64)) k (kvX0_at 12 (kvX0_put_c0 12 (kvX0_put_c0 12 d k (1 : Int64)) k (kvX0_at 12 d k)) k)) (nI 6) (kl_whO (kvX0_put_c0 12 (kvX0_put_c0 12 (kvX0_put_c0 12 u k (1 : Int32).toInt64) k (kvX0_at 12 u k)) k (0 : Int32).toInt64) (kvX0_put_c0 12 (kvX0_put_c0 12 (kvX0_put_c0 12 d k (1 : Int64)) k (kvX0_at 12 d k)) k (1 : Int64)) (nI 6) (kl_whO (kvX0_put_c0 12 (kvX0_put_c0 12 u k (1 : Int32).toInt64) k (kvX0_at 12 u k)) (kvX0_put_c0 12 (kvX0_put_c0 12 d k (1 : Int64)) k (kvX0_at 12 d k)) (nI 6) (kl_whO (kvX0_put_c0 12 u k (1 : Int32).toInt64) (kvX0_put_c0 12 d k (1 : Int64)) (nI 6) uw 6) 6) 6) 6) an fn qn sd k hfn) (cwV 1 hts gX0_influence_X0_allBut rfl rfl rfl ok_X0_allBut ⟨Nat.le_of_ble_eq_true rfl, Nat.le_of_ble_eq_true rfl⟩) ⟨oo_blind, va_recv hK hP (ci := 0) (q0 := 0) rfl rfl, oo_ps hP hK [0, 1, 2, 3, 4, 5] rfl [0] rfl⟩ rfl rfl hl.1 rfl (lv_room (Nat.le_of_ble_eq_true rfl)) dX0_influence_46 ⟨Nat.le_of_ble_eq_true rfl, Nat.le_of_ble_eq_true rfl⟩) hP hS (fun H locs hP hS => ?_)
        refine lv_iload_n hx hb dX0_influence_49 rfl (lv_at hl 4 rfl) ?_
        refine ro_calll (va_runS (As := [.long ((kvX0_sumWhenSurely u d lw uw an qn q k (1 : Int32)) - (kvX0_sumWhenSurely (kvX0_put_c0 12 (kvX0_put_c0 12 u k (1 : Int32).toInt64) k (kvX0_at 12 u k)) (kvX0_put_c0 12 (kvX0_put_c0 12 d k (1 : Int64)) k (kvX0_at 12 d k)) (kl_whO (kvX0_put_c0 12 (kvX0_put_c0 12 u k (1 : Int32).toInt64) k (kvX0_at 12 u k)) (kvX0_put_c0 12 (kvX0_put_c0 12 d k (1 : Int64)) k (kvX0_at 12 d k)) (0 : Int32) (kl_whO (kvX0_put_c0 12 u k (1 : Int32).toInt64) (kvX0_put_c0 12 d k (1 : Int64)) (0 : Int32) lw 6) 6) (kl_whO (kvX0_put_c0 12 (kvX0_put_c0 12 u k (1 : Int32).toInt64) k (kvX0_at 12 u k)) (kvX0_put_c0 12 (kvX0_put_c0 12 d k (1 : Int64)) k (kvX0_at 12 d k)) (nI 6) (kl_whO (kvX0_put_c0 12 u k (1 : Int32).toInt64) (kvX0_put_c0 12 d k (1 : Int64)) (nI 6) uw 6) 6) an qn q k (0 : Int32))), .long (kvX0_allBut (kvX0_put_c0 12 (kvX0_put_c0 12 (kvX0_put_c0 12 (kvX0_put_c0 12 d k (1 : Int64)) k (kvX0_at 12 d k)) k (1 : Int64)) k (kvX0_at 12 (kvX0_put_c0 12 (kvX0_put_c0 12 d k (1 : Int64)) k (kvX0_at 12 d k)) k)) fn k), .int pt]) (rest := []) ⟨hx, hb, hml, hown, hts⟩ (kX0_lowestPart l D ((kvX0_sumWhenSurely u d lw uw an qn q k (1 : Int32)) - (kvX0_sumWhenSurely (kvX0_put_c0 12 (kvX0_put_c0 12 u k (1 : Int32).toInt64) k (kvX0_at 12 u k)) (kvX0_put_c0 12 (kvX0_put_c0 12 d k (1 : Int64)) k (kvX0_at 12 d k)) (kl_whO (kvX0_put_c0 12 (kvX0_put_c0 12 u k (1 : Int32).toInt64) k (kvX0_at 12 u k)) (kvX0_put_c0 12 (kvX0_put_c0 12 d k (1 : Int64)) k (kvX0_at 12 d k)) (0 : Int32) (kl_whO (kvX0_put_c0 12 u k (1 : Int32).toInt64) (kvX0_put_c0 12 d k (1 : Int64)) (0 : Int32) lw 6) 6) (kl_whO (kvX0_put_c0 12 (kvX0_put_c0 12 u k (1 : Int32).toInt64) k (kvX0_at 12 u k)) (kvX0_put_c0 12 (kvX0_put_c0 12 d k (1 : Int64)) k (kvX0_at 12 d k)) (nI 6) (kl_whO (kvX0_put_c0 12 u k (1 : Int32).toInt64) (kvX0_put_c0 12 d k (1 : Int64)) (nI 6) uw 6) 6) an qn q k (0 : Int32))) (kvX0_allBut (kvX0_put_c0 12 (kvX0_put_c0 12 (kvX0_put_c0 12 (kvX0_put_c0 12 d k (1 : Int64)) k (kvX0_at 12 d k)) k (1 : Int64)) k (kvX0_at 12 (kvX0_put_c0 12 (kvX0_put_c0 12 d k (1 : Int64)) k (kvX0_at 12 d k)) k)) fn k) pt) (va_cwS 3 hts gX0_influence_X0_lowestPart rfl rfl rfl ok_X0_lowestPart ⟨Nat.le_of_ble_eq_true rfl, Nat.le_of_ble_eq_true rfl⟩) ⟨oo_blind, oo_ps hP hK [] rfl [] rfl⟩ rfl rfl hl.1 rfl (lv_room (Nat.le_of_ble_eq_true rfl)) dX0_influence_50 ⟨Nat.le_of_ble_eq_true rfl, Nat.le_of_ble_eq_true rfl⟩) hP hS (fun H locs hP hS => ?_)
        have hP := Eq.mp (congrArg (fun z9 => va_P D vwCl (xW cJ h a1 a2 a3 a4 a5 z9 (kvX0_put_c0 12 (kvX0_put_c0 12 (kvX0_put_c0 12 (kvX0_put_c0 12 d k (1 : Int64)) k (kvX0_at 12 d k)) k (1 : Int64)) k (kvX0_at 12 (kvX0_put_c0 12 (kvX0_put_c0 12 d k (1 : Int64)) k (kvX0_at 12 d k)) k)) (kl_whO (kvX0_put_c0 12 (kvX0_put_c0 12 (kvX0_put_c0 12 (kvX0_put_c0 12 u k (1 : Int32).toInt64) k (kvX0_at 12 u k)) k (0 : Int32).toInt64) k (kvX0_at 12 (kvX0_put_c0 12 (kvX0_put_c0 12 u k (1 : Int32).toInt64) k (kvX0_at 12 u k)) k)) (kvX0_put_c0 12 (kvX0_put_c0 12 (kvX0_put_c0 12 (kvX0_put_c0 12 d k (1 : Int64)) k (kvX0_at 12 d k)) k (1 : Int64)) k (kvX0_at 12 (kvX0_put_c0 12 (kvX0_put_c0 12 d k (1 : Int64)) k (kvX0_at 12 d k)) k)) (0 : Int32) (kl_whO (kvX0_put_c0 12 (kvX0_put_c0 12 (kvX0_put_c0 12 u k (1 : Int32).toInt64) k (kvX0_at 12 u k)) k (0 : Int32).toInt64) (kvX0_put_c0 12 (kvX0_put_c0 12 (kvX0_put_c0 12 d k (1 : Int64)) k (kvX0_at 12 d k)) k (1 : Int64)) (0 : Int32) (kl_whO (kvX0_put_c0 12 (kvX0_put_c0 12 u k (1 : Int32).toInt64) k (kvX0_at 12 u k)) (kvX0_put_c0 12 (kvX0_put_c0 12 d k (1 : Int64)) k (kvX0_at 12 d k)) (0 : Int32) (kl_whO (kvX0_put_c0 12 u k (1 : Int32).toInt64) (kvX0_put_c0 12 d k (1 : Int64)) (0 : Int32) lw 6) 6) 6) 6) (kl_whO (kvX0_put_c0 12 (kvX0_put_c0 12 (kvX0_put_c0 12 (kvX0_put_c0 12 u k (1 : Int32).toInt64) k (kvX0_at 12 u k)) k (0 : Int32).toInt64) k (kvX0_at 12 (kvX0_put_c0 12 (kvX0_put_c0 12 u k (1 : Int32).toInt64) k (kvX0_at 12 u k)) k)) (kvX0_put_c0 12 (kvX0_put_c0 12 (kvX0_put_c0 12 (kvX0_put_c0 12 d k (1 : Int64)) k (kvX0_at 12 d k)) k (1 : Int64)) k (kvX0_at 12 (kvX0_put_c0 12 (kvX0_put_c0 12 d k (1 : Int64)) k (kvX0_at 12 d k)) k)) (nI 6) (kl_whO (kvX0_put_c0 12 (kvX0_put_c0 12 (kvX0_put_c0 12 u k (1 : Int32).toInt64) k (kvX0_at 12 u k)) k (0 : Int32).toInt64) (kvX0_put_c0 12 (kvX0_put_c0 12 (kvX0_put_c0 12 d k (1 : Int64)) k (kvX0_at 12 d k)) k (1 : Int64)) (nI 6) (kl_whO (kvX0_put_c0 12 (kvX0_put_c0 12 u k (1 : Int32).toInt64) k (kvX0_at 12 u k)) (kvX0_put_c0 12 (kvX0_put_c0 12 d k (1 : Int64)) k (kvX0_at 12 d k)) (nI 6) (kl_whO (kvX0_put_c0 12 u k (1 : Int32).toInt64) (kvX0_put_c0 12 d k (1 : Int64)) (nI 6) uw 6) 6) 6) 6) an (nI fn) (nI qn) sd) H) (show (kvX0_put_c0 12 (kvX0_put_c0 12 (kvX0_put_c0 12 (kvX0_put_c0 12 u k (1 : Int32).toInt64) k (kvX0_at 12 u k)) k (0 : Int32).toInt64) k (kvX0_at 12 (kvX0_put_c0 12 (kvX0_put_c0 12 u k (1 : Int32).toInt64) k (kvX0_at 12 u k)) k)) = kvX0_influence_u u fn qn q k pt from (by unfold kvX0_influence_u; rw [if_neg c_5, if_neg c_13, if_neg c_20]))) hP
        have hP := Eq.mp (congrArg (fun z9 => va_P D vwCl (xW cJ h a1 a2 a3 a4 a5 (kvX0_influence_u u fn qn q k pt) z9 (kl_whO (kvX0_put_c0 12 (kvX0_put_c0 12 (kvX0_put_c0 12 (kvX0_put_c0 12 u k (1 : Int32).toInt64) k (kvX0_at 12 u k)) k (0 : Int32).toInt64) k (kvX0_at 12 (kvX0_put_c0 12 (kvX0_put_c0 12 u k (1 : Int32).toInt64) k (kvX0_at 12 u k)) k)) (kvX0_put_c0 12 (kvX0_put_c0 12 (kvX0_put_c0 12 (kvX0_put_c0 12 d k (1 : Int64)) k (kvX0_at 12 d k)) k (1 : Int64)) k (kvX0_at 12 (kvX0_put_c0 12 (kvX0_put_c0 12 d k (1 : Int64)) k (kvX0_at 12 d k)) k)) (0 : Int32) (kl_whO (kvX0_put_c0 12 (kvX0_put_c0 12 (kvX0_put_c0 12 u k (1 : Int32).toInt64) k (kvX0_at 12 u k)) k (0 : Int32).toInt64) (kvX0_put_c0 12 (kvX0_put_c0 12 (kvX0_put_c0 12 d k (1 : Int64)) k (kvX0_at 12 d k)) k (1 : Int64)) (0 : Int32) (kl_whO (kvX0_put_c0 12 (kvX0_put_c0 12 u k (1 : Int32).toInt64) k (kvX0_at 12 u k)) (kvX0_put_c0 12 (kvX0_put_c0 12 d k (1 : Int64)) k (kvX0_at 12 d k)) (0 : Int32) (kl_whO (kvX0_put_c0 12 u k (1 : Int32).toInt64) (kvX0_put_c0 12 d k (1 : Int64)) (0 : Int32) lw 6) 6) 6) 6) (kl_whO (kvX0_put_c0 12 (kvX0_put_c0 12 (kvX0_put_c0 12 (kvX0_put_c0 12 u k (1 : Int32).toInt64) k (kvX0_at 12 u k)) k (0 : Int32).toInt64) k (kvX0_at 12 (kvX0_put_c0 12 (kvX0_put_c0 12 u k (1 : Int32).toInt64) k (kvX0_at 12 u k)) k)) (kvX0_put_c0 12 (kvX0_put_c0 12 (kvX0_put_c0 12 (kvX0_put_c0 12 d k (1 : Int64)) k (kvX0_at 12 d k)) k (1 : Int64)) k (kvX0_at 12 (kvX0_put_c0 12 (kvX0_put_c0 12 d k (1 : Int64)) k (kvX0_at 12 d k)) k)) (nI 6) (kl_whO (kvX0_put_c0 12 (kvX0_put_c0 12 (kvX0_put_c0 12 u k (1 : Int32).toInt64) k (kvX0_at 12 u k)) k (0 : Int32).toInt64) (kvX0_put_c0 12 (kvX0_put_c0 12 (kvX0_put_c0 12 d k (1 : Int64)) k (kvX0_at 12 d k)) k (1 : Int64)) (nI 6) (kl_whO (kvX0_put_c0 12 (kvX0_put_c0 12 u k (1 : Int32).toInt64) k (kvX0_at 12 u k)) (kvX0_put_c0 12 (kvX0_put_c0 12 d k (1 : Int64)) k (kvX0_at 12 d k)) (nI 6) (kl_whO (kvX0_put_c0 12 u k (1 : Int32).toInt64) (kvX0_put_c0 12 d k (1 : Int64)) (nI 6) uw 6) 6) 6) 6) an (nI fn) (nI qn) sd) H) (show (kvX0_put_c0 12 (kvX0_put_c0 12 (kvX0_put_c0 12 (kvX0_put_c0 12 d k (1 : Int64)) k (kvX0_at 12 d k)) k (1 : Int64)) k (kvX0_at 12 (kvX0_put_c0 12 (kvX0_put_c0 12 d k (1 : Int64)) k (kvX0_at 12 d k)) k)) = kvX0_influence_d d fn qn q k pt from (by unfold kvX0_influence_d; rw [if_neg c_5, if_neg c_13, if_neg c_20]))) hP
        have hP := Eq.mp (congrArg (fun z9 => va_P D vwCl (xW cJ h a1 a2 a3 a4 a5 (kvX0_influence_u u fn qn q k pt) (kvX0_influence_d d fn qn q k pt) z9 (kl_whO (kvX0_put_c0 12 (kvX0_put_c0 12 (kvX0_put_c0 12 (kvX0_put_c0 12 u k (1 : Int32).toInt64) k (kvX0_at 12 u k)) k (0 : Int32).toInt64) k (kvX0_at 12 (kvX0_put_c0 12 (kvX0_put_c0 12 u k (1 : Int32).toInt64) k (kvX0_at 12 u k)) k)) (kvX0_put_c0 12 (kvX0_put_c0 12 (kvX0_put_c0 12 (kvX0_put_c0 12 d k (1 : Int64)) k (kvX0_at 12 d k)) k (1 : Int64)) k (kvX0_at 12 (kvX0_put_c0 12 (kvX0_put_c0 12 d k (1 : Int64)) k (kvX0_at 12 d k)) k)) (nI 6) (kl_whO (kvX0_put_c0 12 (kvX0_put_c0 12 (kvX0_put_c0 12 u k (1 : Int32).toInt64) k (kvX0_at 12 u k)) k (0 : Int32).toInt64) (kvX0_put_c0 12 (kvX0_put_c0 12 (kvX0_put_c0 12 d k (1 : Int64)) k (kvX0_at 12 d k)) k (1 : Int64)) (nI 6) (kl_whO (kvX0_put_c0 12 (kvX0_put_c0 12 u k (1 : Int32).toInt64) k (kvX0_at 12 u k)) (kvX0_put_c0 12 (kvX0_put_c0 12 d k (1 : Int64)) k (kvX0_at 12 d k)) (nI 6) (kl_whO (kvX0_put_c0 12 u k (1 : Int32).toInt64) (kvX0_put_c0 12 d k (1 : Int64)) (nI 6) uw 6) 6) 6) 6) an (nI fn) (nI qn) sd) H) (show kl_whO (kvX0_put_c0 12 (kvX0_put_c0 12 (kvX0_put_c0 12 (kvX0_put_c0 12 u k (1 : Int32).toInt64) k (kvX0_at 12 u k)) k (0 : Int32).toInt64) k (kvX0_at 12 (kvX0_put_c0 12 (kvX0_put_c0 12 u k (1 : Int32).toInt64) k (kvX0_at 12 u k)) k)) (kvX0_put_c0 12 (kvX0_put_c0 12 (kvX0_put_c0 12 (kvX0_put_c0 12 d k (1 : Int64)) k (kvX0_at 12 d k)) k (1 : Int64)) k (kvX0_at 12 (kvX0_put_c0 12 (kvX0_put_c0 12 d k (1 : Int64)) k (kvX0_at 12 d k)) k)) (0 : Int32) (kl_whO (kvX0_put_c0 12 (kvX0_put_c0 12 (kvX0_put_c0 12 u k (1 : Int32).toInt64) k (kvX0_at 12 u k)) k (0 : Int32).toInt64) (kvX0_put_c0 12 (kvX0_put_c0 12 (kvX0_put_c0 12 d k (1 : Int64)) k (kvX0_at 12 d k)) k (1 : Int64)) (0 : Int32) (kl_whO (kvX0_put_c0 12 (kvX0_put_c0 12 u k (1 : Int32).toInt64) k (kvX0_at 12 u k)) (kvX0_put_c0 12 (kvX0_put_c0 12 d k (1 : Int64)) k (kvX0_at 12 d k)) (0 : Int32) (kl_whO (kvX0_put_c0 12 u k (1 : Int32).toInt64) (kvX0_put_c0 12 d k (1 : Int64)) (0 : Int32) lw 6) 6) 6) 6 = kvX0_influence_lw u d lw fn qn q k pt from (by unfold kvX0_influence_lw; rw [if_neg c_5, if_neg c_13, if_neg c_20]))) hP
        have hP := Eq.mp (congrArg (fun z9 => va_P D vwCl (xW cJ h a1 a2 a3 a4 a5 (kvX0_influence_u u fn qn q k pt) (kvX0_influence_d d fn qn q k pt) (kvX0_influence_lw u d lw fn qn q k pt) z9 an (nI fn) (nI qn) sd) H) (show kl_whO (kvX0_put_c0 12 (kvX0_put_c0 12 (kvX0_put_c0 12 (kvX0_put_c0 12 u k (1 : Int32).toInt64) k (kvX0_at 12 u k)) k (0 : Int32).toInt64) k (kvX0_at 12 (kvX0_put_c0 12 (kvX0_put_c0 12 u k (1 : Int32).toInt64) k (kvX0_at 12 u k)) k)) (kvX0_put_c0 12 (kvX0_put_c0 12 (kvX0_put_c0 12 (kvX0_put_c0 12 d k (1 : Int64)) k (kvX0_at 12 d k)) k (1 : Int64)) k (kvX0_at 12 (kvX0_put_c0 12 (kvX0_put_c0 12 d k (1 : Int64)) k (kvX0_at 12 d k)) k)) (nI 6) (kl_whO (kvX0_put_c0 12 (kvX0_put_c0 12 (kvX0_put_c0 12 u k (1 : Int32).toInt64) k (kvX0_at 12 u k)) k (0 : Int32).toInt64) (kvX0_put_c0 12 (kvX0_put_c0 12 (kvX0_put_c0 12 d k (1 : Int64)) k (kvX0_at 12 d k)) k (1 : Int64)) (nI 6) (kl_whO (kvX0_put_c0 12 (kvX0_put_c0 12 u k (1 : Int32).toInt64) k (kvX0_at 12 u k)) (kvX0_put_c0 12 (kvX0_put_c0 12 d k (1 : Int64)) k (kvX0_at 12 d k)) (nI 6) (kl_whO (kvX0_put_c0 12 u k (1 : Int32).toInt64) (kvX0_put_c0 12 d k (1 : Int64)) (nI 6) uw 6) 6) 6) 6 = kvX0_influence_uw u d uw fn qn q k pt from (by unfold kvX0_influence_uw; rw [if_neg c_5, if_neg c_13, if_neg c_20]))) hP
        have hP : va_P D vwCl (xW cJ h a1 a2 a3 a4 a5 (kvX0_influence_u u fn qn q k pt) (kvX0_influence_d d fn qn q k pt) (kvX0_influence_lw u d lw fn qn q k pt) (kvX0_influence_uw u d uw fn qn q k pt) an (nI fn) (nI qn) sd) H := hP
        have hD : va_D _ (xW cJ h a1 a2 a3 a4 a5 (kvX0_influence_u u fn qn q k pt) (kvX0_influence_d d fn qn q k pt) (kvX0_influence_lw u d lw fn qn q k pt) (kvX0_influence_uw u d uw fn qn q k pt) an (nI fn) (nI qn) sd) := oo_Dre hD rfl
        exact mu_retl hx hb hr hlocks hP hD hS (by unfold kvX0_influence; rw [if_neg c_5, if_neg c_13, if_neg c_20]) dX0_influence_53
      · refine lv_lconst (v := (0 : Int64)) hx hb dX0_influence_23 (by decide) ?_
        have hP := Eq.mp (congrArg (fun z9 => va_P D vwCl (xW cJ h a1 a2 a3 a4 a5 z9 d lw uw an (nI fn) (nI qn) sd) H) (show u = kvX0_influence_u u fn qn q k pt from (by unfold kvX0_influence_u; rw [if_neg c_5, if_neg c_13, if_pos c_20]))) hP
        have hP := Eq.mp (congrArg (fun z9 => va_P D vwCl (xW cJ h a1 a2 a3 a4 a5 (kvX0_influence_u u fn qn q k pt) z9 lw uw an (nI fn) (nI qn) sd) H) (show d = kvX0_influence_d d fn qn q k pt from (by unfold kvX0_influence_d; rw [if_neg c_5, if_neg c_13, if_pos c_20]))) hP
        have hP := Eq.mp (congrArg (fun z9 => va_P D vwCl (xW cJ h a1 a2 a3 a4 a5 (kvX0_influence_u u fn qn q k pt) (kvX0_influence_d d fn qn q k pt) z9 uw an (nI fn) (nI qn) sd) H) (show lw = kvX0_influence_lw u d lw fn qn q k pt from (by unfold kvX0_influence_lw; rw [if_neg c_5, if_neg c_13, if_pos c_20]))) hP
        have hP := Eq.mp (congrArg (fun z9 => va_P D vwCl (xW cJ h a1 a2 a3 a4 a5 (kvX0_influence_u u fn qn q k pt) (kvX0_influence_d d fn qn q k pt) (kvX0_influence_lw u d lw fn qn q k pt) z9 an (nI fn) (nI qn) sd) H) (show uw = kvX0_influence_uw u d uw fn qn q k pt from (by unfold kvX0_influence_uw; rw [if_neg c_5, if_neg c_13, if_pos c_20]))) hP
        have hP : va_P D vwCl (xW cJ h a1 a2 a3 a4 a5 (kvX0_influence_u u fn qn q k pt) (kvX0_influence_d d fn qn q k pt) (kvX0_influence_lw u d lw fn qn q k pt) (kvX0_influence_uw u d uw fn qn q k pt) an (nI fn) (nI qn) sd) H := hP
        have hD : va_D _ (xW cJ h a1 a2 a3 a4 a5 (kvX0_influence_u u fn qn q k pt) (kvX0_influence_d d fn qn q k pt) (kvX0_influence_lw u d lw fn qn q k pt) (kvX0_influence_uw u d uw fn qn q k pt) an (nI fn) (nI qn) sd) := oo_Dre hD rfl
        exact mu_retl hx hb hr hlocks hP hD hS (by unfold kvX0_influence; rw [if_neg c_5, if_neg c_13, if_pos c_20]) dX0_influence_24
theorem ok_X0_likeliest : yX0_likeliest.cls = RX0 ∧ yX0_likeliest.cls ≠ "java/lang/invoke/MethodHandle" ∧ yX0_likeliest.cls ≠ "java/lang/invoke/VarHandle" ∧ (parseMethodDescriptor yX0_likeliest.desc).map (fun d => d.parameters.length) = some 1 := by decide +kernel
def kvX0_likeliest (lw : Nat → Int64) (uw : Nat → Int64) (an : Nat → Int64) (fn : Nat) (qn : Nat) (q : Int32) : Int32 := if (kvX0_isQuestion qn q) = 0 then (-1 : Int32) else (kvX0_likeliestWorld lw uw an fn qn q)
set_option maxHeartbeats 4000000 in
set_option maxRecDepth 100000 in
theorem kX0_likeliest (l : Launch) (D : va_G) (cJ : ClassId) (h a1 a2 a3 a4 a5 : Nat) (u d lw uw an : Nat → Int64) (fn qn : Nat) (sd : Int64) (q : Int32) (hfn : fn ≤ 12) : RoI l yX0_likeliest wsX0_likeliest ({ frames := 4, cells := 0, slots := 0, locals := 93 } : Room) [.ref h, .int q] D (xW cJ h a1 a2 a3 a4 a5 u d lw uw an (nI fn) (nI qn) sd) [(cJ, .long)] (kvX0_likeliest lw uw an fn qn q) := by
  refine oo_head (C := RX0) (cc := cX0_likeliest) (maxL := 2) (ret := (some .int)) (by decide) rfl rfl (Nat.le_of_ble_eq_true rfl) ?_
  intro p e s m below meth c hx hb hr hlocks hml hown hnm hts hpre ls hl
  have hl : lv_has ls 2 [(0, .ref h), (1, .int q)] := hl
  obtain ⟨hP, hK⟩ := hpre
  have hS : va_S oo_N s.heap s.heap [] := va_S.rf
  have hin : ∀ w ∈ wsX00, w ∈ wsX0_likeliest := fun w h => List.mem_cons_of_mem _ (List.mem_append_right _ h)
  refine lv_aload_n hx hb dX0_likeliest_0 rfl (lv_at hl 0 rfl) ?_
  refine lv_iload_n hx hb dX0_likeliest_1 rfl (lv_at hl 1 rfl) ?_
  refine ro_calli (va_runV (As := [.int q]) (rest := []) ⟨hx, hb, hml, hown, hts⟩ (kX0_isQuestion l D cJ h a1 a2 a3 a4 a5 u d lw uw an fn qn sd q) (cwV 1 hts gX0_likeliest_X0_isQuestion rfl rfl rfl ok_X0_isQuestion ⟨Nat.le_of_ble_eq_true rfl, Nat.le_of_ble_eq_true rfl⟩) ⟨oo_blind, va_recv hK hP (ci := 0) (q0 := 0) rfl rfl, oo_ps hP hK [0, 1, 2, 3, 4, 5] rfl [0] rfl⟩ rfl rfl hl.1 rfl (lv_room (Nat.le_of_ble_eq_true rfl)) dX0_likeliest_2 ⟨Nat.le_of_ble_eq_true rfl, Nat.le_of_ble_eq_true rfl⟩) hP hS (fun H locs hP hS => ?_)
  refine lv_if_ne (tgt := 10) hx hb dX0_likeliest_5 (by decide) (fun c_5 => ?_) (fun c_5 => ?_)
  · refine lv_aload_n hx hb dX0_likeliest_10 rfl (lv_at hl 0 rfl) ?_
    refine lv_iload_n hx hb dX0_likeliest_11 rfl (lv_at hl 1 rfl) ?_
    refine ro_calli (va_runV (As := [.int q]) (rest := []) ⟨hx, hb, hml, hown, hts⟩ (kX0_likeliestWorld l D cJ h a1 a2 a3 a4 a5 u d lw uw an fn qn sd q hfn) (cwV 1 hts gX0_likeliest_X0_likeliestWorld rfl rfl rfl ok_X0_likeliestWorld ⟨Nat.le_of_ble_eq_true rfl, Nat.le_of_ble_eq_true rfl⟩) ⟨oo_blind, va_recv hK hP (ci := 0) (q0 := 0) rfl rfl, oo_ps hP hK [0, 1, 2, 3, 4, 5] rfl [0] rfl⟩ rfl rfl hl.1 rfl (lv_room (Nat.le_of_ble_eq_true rfl)) dX0_likeliest_12 ⟨Nat.le_of_ble_eq_true rfl, Nat.le_of_ble_eq_true rfl⟩) hP hS (fun H locs hP hS => ?_)
    exact ro_reti hx hb hr hlocks hS (by unfold kvX0_likeliest; rw [if_neg c_5]) dX0_likeliest_15
  · refine lv_iconst (v := (-1 : Int32)) hx hb dX0_likeliest_8 (by decide) ?_
    exact ro_reti hx hb hr hlocks hS (by unfold kvX0_likeliest; rw [if_pos c_5]) dX0_likeliest_9
theorem ok_X0_weight : yX0_weight.cls = RX0 ∧ yX0_weight.cls ≠ "java/lang/invoke/MethodHandle" ∧ yX0_weight.cls ≠ "java/lang/invoke/VarHandle" ∧ (parseMethodDescriptor yX0_weight.desc).map (fun d => d.parameters.length) = some 1 := by decide +kernel
def kvX0_weight (lw : Nat → Int64) (uw : Nat → Int64) (an : Nat → Int64) (fn : Nat) (qn : Nat) (q : Int32) : Int64 := if (kvX0_isQuestion qn q) = 0 then (0 : Int64) else (if (kvX0_likeliestWorld lw uw an fn qn q) = (-2 : Int32) then (0 : Int64) else (kvX0_weightOf lw uw (kvX0_likeliestWorld lw uw an fn qn q)))
set_option maxHeartbeats 4000000 in
set_option maxRecDepth 100000 in
theorem kX0_weight (l : Launch) (D : va_G) (cJ : ClassId) (h a1 a2 a3 a4 a5 : Nat) (u d lw uw an : Nat → Int64) (fn qn : Nat) (sd : Int64) (q : Int32) (hfn : fn ≤ 12) : RoL l yX0_weight wsX0_weight ({ frames := 4, cells := 0, slots := 0, locals := 93 } : Room) [.ref h, .int q] D (xW cJ h a1 a2 a3 a4 a5 u d lw uw an (nI fn) (nI qn) sd) [(cJ, .long)] (kvX0_weight lw uw an fn qn q) := by
  refine oo_head (C := RX0) (cc := cX0_weight) (maxL := 3) (ret := (some .long)) (by decide) rfl rfl (Nat.le_of_ble_eq_true rfl) ?_
  intro p e s m below meth c hx hb hr hlocks hml hown hnm hts hpre ls hl
  have hl : lv_has ls 3 [(0, .ref h), (1, .int q)] := hl
  obtain ⟨hP, hK⟩ := hpre
  have hS : va_S oo_N s.heap s.heap [] := va_S.rf
  have hin : ∀ w ∈ wsX00, w ∈ wsX0_weight := fun w h => List.mem_cons_of_mem _ (List.mem_append_right _ h)
  refine lv_aload_n hx hb dX0_weight_0 rfl (lv_at hl 0 rfl) ?_
  refine lv_iload_n hx hb dX0_weight_1 rfl (lv_at hl 1 rfl) ?_
  refine ro_calli (va_runV (As := [.int q]) (rest := []) ⟨hx, hb, hml, hown, hts⟩ (kX0_isQuestion l D cJ h a1 a2 a3 a4 a5 u d lw uw an fn qn sd q) (cwV 1 hts gX0_weight_X0_isQuestion rfl rfl rfl ok_X0_isQuestion ⟨Nat.le_of_ble_eq_true rfl, Nat.le_of_ble_eq_true rfl⟩) ⟨oo_blind, va_recv hK hP (ci := 0) (q0 := 0) rfl rfl, oo_ps hP hK [0, 1, 2, 3, 4, 5] rfl [0] rfl⟩ rfl rfl hl.1 rfl (lv_room (Nat.le_of_ble_eq_true rfl)) dX0_weight_2 ⟨Nat.le_of_ble_eq_true rfl, Nat.le_of_ble_eq_true rfl⟩) hP hS (fun H locs hP hS => ?_)
  refine lv_if_ne (tgt := 10) hx hb dX0_weight_5 (by decide) (fun c_5 => ?_) (fun c_5 => ?_)
  · refine lv_aload_n hx hb dX0_weight_10 rfl (lv_at hl 0 rfl) ?_
    refine lv_iload_n hx hb dX0_weight_11 rfl (lv_at hl 1 rfl) ?_
    refine ro_calli (va_runV (As := [.int q]) (rest := []) ⟨hx, hb, hml, hown, hts⟩ (kX0_likeliestWorld l D cJ h a1 a2 a3 a4 a5 u d lw uw an fn qn sd q hfn) (cwV 1 hts gX0_weight_X0_likeliestWorld rfl rfl rfl ok_X0_likeliestWorld ⟨Nat.le_of_ble_eq_true rfl, Nat.le_of_ble_eq_true rfl⟩) ⟨oo_blind, va_recv hK hP (ci := 0) (q0 := 0) rfl rfl, oo_ps hP hK [0, 1, 2, 3, 4, 5] rfl [0] rfl⟩ rfl rfl hl.1 rfl (lv_room (Nat.le_of_ble_eq_true rfl)) dX0_weight_12 ⟨Nat.le_of_ble_eq_true rfl, Nat.le_of_ble_eq_true rfl⟩) hP hS (fun H locs hP hS => ?_)
    refine lv_istore_n (lv' := [(2, .int (kvX0_likeliestWorld lw uw an fn qn q)), (0, .ref h), (1, .int q)]) hx hb dX0_weight_15 rfl hl (by decide) rfl (fun ls hl => ?_)
    refine lv_iload_n hx hb dX0_weight_16 rfl (lv_at hl 0 rfl) ?_
    refine lv_bipush (v := (-2 : Int32)) hx hb dX0_weight_17 (by decide) ?_
    refine lv_icmp_ne (tgt := 26) hx hb dX0_weight_19 (by decide) (fun c_19 => ?_) (fun c_19 => ?_)
    · refine lv_aload_n hx hb dX0_weight_26 rfl (lv_at hl 1 rfl) ?_
      refine lv_iload_n hx hb dX0_weight_27 rfl (lv_at hl 0 rfl) ?_
      refine ro_calll (va_runV (As := [.int (kvX0_likeliestWorld lw uw an fn qn q)]) (rest := []) ⟨hx, hb, hml, hown, hts⟩ (kX0_weightOf l D cJ h a1 a2 a3 a4 a5 u d lw uw an fn qn sd (kvX0_likeliestWorld lw uw an fn qn q)) (cwV 1 hts gX0_weight_X0_weightOf rfl rfl rfl ok_X0_weightOf ⟨Nat.le_of_ble_eq_true rfl, Nat.le_of_ble_eq_true rfl⟩) ⟨oo_blind, va_recv hK hP (ci := 0) (q0 := 0) rfl rfl, oo_ps hP hK [0, 1, 2, 3, 4, 5] rfl [0] rfl⟩ rfl rfl hl.1 rfl (lv_room (Nat.le_of_ble_eq_true rfl)) dX0_weight_28 ⟨Nat.le_of_ble_eq_true rfl, Nat.le_of_ble_eq_true rfl⟩) hP hS (fun H locs hP hS => ?_)
      exact ro_retl hx hb hr hlocks hS (by unfold kvX0_weight; rw [if_neg c_5, if_neg c_19]) dX0_weight_31
    · refine lv_lconst (v := (0 : Int64)) hx hb dX0_weight_22 (by decide) ?_
      refine lv_goto (tgt := 31) hx hb dX0_weight_23 (by decide) ?_
      exact ro_retl hx hb hr hlocks hS (by unfold kvX0_weight; rw [if_neg c_5, if_pos c_19]) dX0_weight_31
  · refine lv_lconst (v := (0 : Int64)) hx hb dX0_weight_8 (by decide) ?_
    exact ro_retl hx hb hr hlocks hS (by unfold kvX0_weight; rw [if_pos c_5]) dX0_weight_9
def kl_wc (an : Nat → Int64) (qn : Nat) (q : Int32) : Nat → Int32
  | 0 => 0
  | n + 1 => kl_wc an qn q n + kvJ13_bitCount_95d88 (kvX0_blockOf an qn q (nI n))
theorem ok_X0_worlds : yX0_worlds.cls = RX0 ∧ yX0_worlds.cls ≠ "java/lang/invoke/MethodHandle" ∧ yX0_worlds.cls ≠ "java/lang/invoke/VarHandle" ∧ (parseMethodDescriptor yX0_worlds.desc).map (fun d => d.parameters.length) = some 1 := by decide +kernel
def kvX0_worlds (an : Nat → Int64) (fn : Nat) (qn : Nat) (q : Int32) : Int32 := if (kvX0_isQuestion qn q) = 0 then (-1 : Int32) else ((kl_wc an qn q 64) >>> (((nI 12) - (nI fn)) &&& 31))
set_option maxHeartbeats 4000000 in
set_option maxRecDepth 100000 in
theorem kX0_worlds (l : Launch) (D : va_G) (cJ : ClassId) (h a1 a2 a3 a4 a5 : Nat) (u d lw uw an : Nat → Int64) (fn qn : Nat) (sd : Int64) (q : Int32) : RoI l yX0_worlds wsX0_worlds ({ frames := 2, cells := 0, slots := 0, locals := 43 } : Room) [.ref h, .int q] D (xW cJ h a1 a2 a3 a4 a5 u d lw uw an (nI fn) (nI qn) sd) [(cJ, .long)] (kvX0_worlds an fn qn q) := by
  refine oo_head (C := RX0) (cc := cX0_worlds) (maxL := 4) (ret := (some .int)) (by decide) rfl rfl (Nat.le_of_ble_eq_true rfl) ?_
  intro p e s m below meth c hx hb hr hlocks hml hown hnm hts hpre ls hl
  have hl : lv_has ls 4 [(0, .ref h), (1, .int q)] := hl
  obtain ⟨hP, hK⟩ := hpre
  have hS : va_S oo_N s.heap s.heap [] := va_S.rf
  have hin : ∀ w ∈ wsX00, w ∈ wsX0_worlds := fun w h => List.mem_cons_of_mem _ (List.mem_append_right _ h)
  refine lv_aload_n hx hb dX0_worlds_0 rfl (lv_at hl 0 rfl) ?_
  refine lv_iload_n hx hb dX0_worlds_1 rfl (lv_at hl 1 rfl) ?_
  refine ro_calli (va_runV (As := [.int q]) (rest := []) ⟨hx, hb, hml, hown, hts⟩ (kX0_isQuestion l D cJ h a1 a2 a3 a4 a5 u d lw uw an fn qn sd q) (cwV 1 hts gX0_worlds_X0_isQuestion rfl rfl rfl ok_X0_isQuestion ⟨Nat.le_of_ble_eq_true rfl, Nat.le_of_ble_eq_true rfl⟩) ⟨oo_blind, va_recv hK hP (ci := 0) (q0 := 0) rfl rfl, oo_ps hP hK [0, 1, 2, 3, 4, 5] rfl [0] rfl⟩ rfl rfl hl.1 rfl (lv_room (Nat.le_of_ble_eq_true rfl)) dX0_worlds_2 ⟨Nat.le_of_ble_eq_true rfl, Nat.le_of_ble_eq_true rfl⟩) hP hS (fun H locs hP hS => ?_)
  refine lv_if_ne (tgt := 10) hx hb dX0_worlds_5 (by decide) (fun c_5 => ?_) (fun c_5 => ?_)
  · refine lv_iconst (v := (0 : Int32)) hx hb dX0_worlds_10 (by decide) ?_
    refine lv_istore_n (lv' := [(2, .int (0 : Int32)), (0, .ref h), (1, .int q)]) hx hb dX0_worlds_11 rfl hl (by decide) rfl (fun ls hl => ?_)
    refine lv_iconst (v := nI 0) hx hb dX0_worlds_12 (by decide) ?_
    refine lv_istore_n (lv' := [(3, .int (nI 0)), (2, .int (0 : Int32)), (0, .ref h), (1, .int q)]) hx hb dX0_worlds_13 rfl hl (by decide) rfl (fun ls hl => ?_)
    have hl : lv_has ls 4 [(0, .ref h), (1, .int q), (2, .int (0 : Int32)), (3, .int (nI 0))] := lv_sub hl [2, 3, 1, 0] rfl
    have hl := Eq.mp (congrArg (fun z9 => lv_has ls 4 [(0, .ref h), (1, .int q), (2, .int z9), (3, .int (nI 0))]) (show (0 : Int32) = kl_wc an qn q 0 from (by first | rfl | (simp only [kl_wc]; done) | (simp only [kl_wc]; rw [if_neg c_5])))) hl
    refine oo_loop (N := 64) (fun n H locs ls => va_P D vwCl (xW cJ h a1 a2 a3 a4 a5 u d lw uw an (nI fn) (nI qn) sd) H ∧ va_S (oo_N) s.heap H locs ∧ lv_has ls 4 [(0, .ref h), (1, .int q), (2, .int (kl_wc an qn q n)), (3, .int (nI n))]) ?_ ?_ 0 (Nat.zero_le _) ⟨hP, hS, hl⟩
    · intro H locs ls hI
      obtain ⟨hP, hS, hl⟩ := hI
      refine lv_iload_n hx hb dX0_worlds_14 rfl (lv_at hl 3 rfl) ?_
      refine lv_bipush (v := nI 64) hx hb dX0_worlds_15 (by decide) ?_
      refine lv_icmp_ge (tgt := 38) hx hb dX0_worlds_17 (by decide) (fun c_17 => ?_) (fun c_17 => ?_)
      · refine lv_iload_n hx hb dX0_worlds_38 rfl (lv_at hl 2 rfl) ?_
        refine lv_bipush (v := nI 12) hx hb dX0_worlds_39 (by decide) ?_
        refine lv_aload_n hx hb dX0_worlds_41 rfl (lv_at hl 0 rfl) ?_
        refine va_get (D := D) (ci := 0) (v := .int (nI fn)) (C := RX0) (T := TX0) (N := 8) hx hb hts hin hown hK hP 0 rfl rfl 5 (by decide) (hts (.fieldLink RX0 25 "OddsSampling" "factCount" "I") (by decide +kernel)) (fun _ h9 => h9) rfl dX0_worlds_42 ?_
        refine lv_isub hx hb dX0_worlds_45 ?_
        refine lv_ishr hx hb dX0_worlds_46 ?_
        exact ro_reti hx hb hr hlocks hS (by unfold kvX0_worlds; rw [if_neg c_5]) dX0_worlds_47
      · exact absurd (nI_le (Nat.le_refl _) (by omega)) c_17
    · intro n hltn ihn H locs ls hI
      obtain ⟨hP, hS, hl⟩ := hI
      refine lv_iload_n hx hb dX0_worlds_14 rfl (lv_at hl 3 rfl) ?_
      refine lv_bipush (v := nI 64) hx hb dX0_worlds_15 (by decide) ?_
      refine lv_icmp_ge (tgt := 38) hx hb dX0_worlds_17 (by decide) (fun c_17 => ?_) (fun c_17 => ?_)
      · exact absurd c_17 (nI_ge hltn (by omega))
      · refine lv_iload_n hx hb dX0_worlds_20 rfl (lv_at hl 2 rfl) ?_
        refine lv_aload_n hx hb dX0_worlds_21 rfl (lv_at hl 0 rfl) ?_
        refine lv_iload_n hx hb dX0_worlds_22 rfl (lv_at hl 1 rfl) ?_
        refine lv_iload_n hx hb dX0_worlds_23 rfl (lv_at hl 3 rfl) ?_
        refine ro_calll (va_runV (As := [.int q, .int (nI n)]) (rest := [.int (kl_wc an qn q n)]) ⟨hx, hb, hml, hown, hts⟩ (kX0_blockOf l D cJ h a1 a2 a3 a4 a5 u d lw uw an fn qn sd q (nI n)) (cwV 2 hts gX0_worlds_X0_blockOf rfl rfl rfl ok_X0_blockOf ⟨Nat.le_of_ble_eq_true rfl, Nat.le_of_ble_eq_true rfl⟩) ⟨oo_blind, va_recv hK hP (ci := 0) (q0 := 0) rfl rfl, oo_ps hP hK [0, 1, 2, 3, 4, 5] rfl [0] rfl⟩ rfl rfl hl.1 rfl (lv_room (Nat.le_of_ble_eq_true rfl)) dX0_worlds_24 ⟨Nat.le_of_ble_eq_true rfl, Nat.le_of_ble_eq_true rfl⟩) hP hS (fun H locs hP hS => ?_)
        refine ro_calli (va_runS (As := [.long (kvX0_blockOf an qn q (nI n))]) (rest := [.int (kl_wc an qn q n)]) ⟨hx, hb, hml, hown, hts⟩ (kJ13_bitCount_95d88 l D (kvX0_blockOf an qn q (nI n))) (va_cwS 1 hts gX0_worlds_J13_bitCount_95d88 rfl rfl rfl ok_J13_bitCount_95d88 ⟨Nat.le_of_ble_eq_true rfl, Nat.le_of_ble_eq_true rfl⟩) ⟨oo_blind, oo_ps hP hK [] rfl [] rfl⟩ rfl rfl hl.1 rfl (lv_room (Nat.le_of_ble_eq_true rfl)) dX0_worlds_27 ⟨Nat.le_of_ble_eq_true rfl, Nat.le_of_ble_eq_true rfl⟩) hP hS (fun H locs hP hS => ?_)
        refine lv_iadd hx hb dX0_worlds_30 ?_
        refine lv_istore_n (lv' := [(2, .int ((kl_wc an qn q n) + (kvJ13_bitCount_95d88 (kvX0_blockOf an qn q (nI n))))), (0, .ref h), (1, .int q), (3, .int (nI n))]) hx hb dX0_worlds_31 rfl hl (by decide) rfl (fun ls hl => ?_)
        refine lv_iinc (v := nI (n + 1)) (lv' := [(3, .int (nI (n + 1))), (2, .int ((kl_wc an qn q n) + (kvJ13_bitCount_95d88 (kvX0_blockOf an qn q (nI n))))), (0, .ref h), (1, .int q)]) hx hb dX0_worlds_32 hl (k := 3) rfl (oo_inc n 1) (by decide) rfl (fun ls hl => ?_)
        refine lv_goto (tgt := 14) hx hb dX0_worlds_35 (by decide) ?_
        have hl : lv_has ls 4 [(0, .ref h), (1, .int q), (2, .int ((kl_wc an qn q n) + (kvJ13_bitCount_95d88 (kvX0_blockOf an qn q (nI n))))), (3, .int (nI (n + 1)))] := lv_sub hl [2, 3, 1, 0] rfl
        have hl := Eq.mp (congrArg (fun z9 => lv_has ls 4 [(0, .ref h), (1, .int q), (2, .int z9), (3, .int (nI (n + 1)))]) (show (kl_wc an qn q n) + (kvJ13_bitCount_95d88 (kvX0_blockOf an qn q (nI n))) = kl_wc an qn q (n + 1) from (by first | rfl | (simp only [kl_wc]; done)))) hl
        exact ihn _ _ _ ⟨hP, hS, hl⟩
  · refine lv_iconst (v := (-1 : Int32)) hx hb dX0_worlds_8 (by decide) ?_
    exact ro_reti hx hb hr hlocks hS (by unfold kvX0_worlds; rw [if_pos c_5]) dX0_worlds_9
def kvX0_same (an : Nat → Int64) (qn : Nat) (q r : Int32) : Int32 := if kvX0_isQuestion qn q = 0 then -1 else (if kvX0_isQuestion qn r = 0 then -1 else (if (∀ k : Nat, k < 64 → lg_cmp (kvX0_blockOf an qn q (nI k)) (kvX0_blockOf an qn r (nI k)) = 0) then 1 else 0))
theorem ok_X0_same : yX0_same.cls = RX0 ∧ yX0_same.cls ≠ "java/lang/invoke/MethodHandle" ∧ yX0_same.cls ≠ "java/lang/invoke/VarHandle" ∧ (parseMethodDescriptor yX0_same.desc).map (fun d => d.parameters.length) = some 2 := by decide +kernel
set_option maxHeartbeats 4000000 in
set_option maxRecDepth 100000 in
theorem kX0_same (l : Launch) (D : va_G) (cJ : ClassId) (h a1 a2 a3 a4 a5 : Nat) (u d lw uw an : Nat → Int64) (fn qn : Nat) (sd : Int64) (q : Int32) (r : Int32) : RoI l yX0_same wsX0_same ({ frames := 2, cells := 0, slots := 0, locals := 43 } : Room) [.ref h, .int q, .int r] D (xW cJ h a1 a2 a3 a4 a5 u d lw uw an (nI fn) (nI qn) sd) [(cJ, .long)] (kvX0_same an qn q r) := by
  refine oo_head (C := RX0) (cc := cX0_same) (maxL := 4) (ret := (some .int)) (by decide) rfl rfl (Nat.le_of_ble_eq_true rfl) ?_
  intro p e s m below meth c hx hb hr hlocks hml hown hnm hts hpre ls hl
  have hl : lv_has ls 4 [(0, .ref h), (1, .int q), (2, .int r)] := hl
  obtain ⟨hP, hK⟩ := hpre
  have hS : va_S oo_N s.heap s.heap [] := va_S.rf
  have hin : ∀ w ∈ wsX00, w ∈ wsX0_same := fun w h => List.mem_cons_of_mem _ (List.mem_append_right _ h)
  refine lv_aload_n hx hb dX0_same_0 rfl (lv_at hl 0 rfl) ?_
  refine lv_iload_n hx hb dX0_same_1 rfl (lv_at hl 1 rfl) ?_
  refine ro_calli (va_runV (As := [.int q]) (rest := []) ⟨hx, hb, hml, hown, hts⟩ (kX0_isQuestion l D cJ h a1 a2 a3 a4 a5 u d lw uw an fn qn sd q) (cwV 1 hts gX0_same_X0_isQuestion rfl rfl rfl ok_X0_isQuestion ⟨Nat.le_of_ble_eq_true rfl, Nat.le_of_ble_eq_true rfl⟩) ⟨oo_blind, va_recv hK hP (ci := 0) (q0 := 0) rfl rfl, oo_ps hP hK [0, 1, 2, 3, 4, 5] rfl [0] rfl⟩ rfl rfl hl.1 rfl (lv_room (Nat.le_of_ble_eq_true rfl)) dX0_same_2 ⟨Nat.le_of_ble_eq_true rfl, Nat.le_of_ble_eq_true rfl⟩) hP hS (fun H locs hP hS => ?_)
  refine lv_if_eq (tgt := 16) hx hb dX0_same_5 (by decide) (fun c_5 => ?_) (fun c_5 => ?_)
  · refine lv_iconst (v := (-1 : Int32)) hx hb dX0_same_16 (by decide) ?_
    exact ro_reti hx hb hr hlocks hS (by unfold kvX0_same; rw [if_pos c_5]) dX0_same_17
  · refine lv_aload_n hx hb dX0_same_8 rfl (lv_at hl 0 rfl) ?_
    refine lv_iload_n hx hb dX0_same_9 rfl (lv_at hl 2 rfl) ?_
    refine ro_calli (va_runV (As := [.int r]) (rest := []) ⟨hx, hb, hml, hown, hts⟩ (kX0_isQuestion l D cJ h a1 a2 a3 a4 a5 u d lw uw an fn qn sd r) (cwV 1 hts gX0_same_X0_isQuestion rfl rfl rfl ok_X0_isQuestion ⟨Nat.le_of_ble_eq_true rfl, Nat.le_of_ble_eq_true rfl⟩) ⟨oo_blind, va_recv hK hP (ci := 0) (q0 := 0) rfl rfl, oo_ps hP hK [0, 1, 2, 3, 4, 5] rfl [0] rfl⟩ rfl rfl hl.1 rfl (lv_room (Nat.le_of_ble_eq_true rfl)) dX0_same_10 ⟨Nat.le_of_ble_eq_true rfl, Nat.le_of_ble_eq_true rfl⟩) hP hS (fun H locs hP hS => ?_)
    refine lv_if_ne (tgt := 18) hx hb dX0_same_13 (by decide) (fun c_13 => ?_) (fun c_13 => ?_)
    · refine lv_iconst (v := nI 0) hx hb dX0_same_18 (by decide) ?_
      refine lv_istore_n (lv' := [(3, .int (nI 0)), (0, .ref h), (1, .int q), (2, .int r)]) hx hb dX0_same_19 rfl hl (by decide) rfl (fun ls hl => ?_)
      have hl : lv_has ls 4 [(0, .ref h), (1, .int q), (2, .int r), (3, .int (nI 0))] := lv_sub hl [1, 2, 3, 0] rfl
      refine oo_loop (N := 64) (fun n H locs ls => va_P D vwCl (xW cJ h a1 a2 a3 a4 a5 u d lw uw an (nI fn) (nI qn) sd) H ∧ va_S (oo_N) s.heap H locs ∧ lv_has ls 4 [(0, .ref h), (1, .int q), (2, .int r), (3, .int (nI n))] ∧ ∀ k : Nat, k < n → lg_cmp (kvX0_blockOf an qn q (nI k)) (kvX0_blockOf an qn r (nI k)) = 0) ?_ ?_ 0 (Nat.zero_le _) ⟨hP, hS, hl, lt_0⟩
      · intro H locs ls hI
        obtain ⟨hP, hS, hl, hE⟩ := hI
        refine lv_iload_n hx hb dX0_same_20 rfl (lv_at hl 3 rfl) ?_
        refine lv_bipush (v := nI 64) hx hb dX0_same_21 (by decide) ?_
        refine lv_icmp_ge (tgt := 50) hx hb dX0_same_23 (by decide) (fun c_23 => ?_) (fun c_23 => ?_)
        · refine lv_iconst (v := (1 : Int32)) hx hb dX0_same_50 (by decide) ?_
          exact ro_reti hx hb hr hlocks hS (by unfold kvX0_same; rw [if_neg c_5, if_neg c_13, if_pos hE]) dX0_same_51
        · exact absurd (nI_le (Nat.le_refl _) (by omega)) c_23
      · intro n hltn ihn H locs ls hI
        obtain ⟨hP, hS, hl, hE⟩ := hI
        refine lv_iload_n hx hb dX0_same_20 rfl (lv_at hl 3 rfl) ?_
        refine lv_bipush (v := nI 64) hx hb dX0_same_21 (by decide) ?_
        refine lv_icmp_ge (tgt := 50) hx hb dX0_same_23 (by decide) (fun c_23 => ?_) (fun c_23 => ?_)
        · exact absurd c_23 (nI_ge hltn (by omega))
        · refine lv_aload_n hx hb dX0_same_26 rfl (lv_at hl 0 rfl) ?_
          refine lv_iload_n hx hb dX0_same_27 rfl (lv_at hl 1 rfl) ?_
          refine lv_iload_n hx hb dX0_same_28 rfl (lv_at hl 3 rfl) ?_
          refine ro_calll (va_runV (As := [.int q, .int (nI n)]) (rest := []) ⟨hx, hb, hml, hown, hts⟩ (kX0_blockOf l D cJ h a1 a2 a3 a4 a5 u d lw uw an fn qn sd q (nI n)) (cwV 2 hts gX0_same_X0_blockOf rfl rfl rfl ok_X0_blockOf ⟨Nat.le_of_ble_eq_true rfl, Nat.le_of_ble_eq_true rfl⟩) ⟨oo_blind, va_recv hK hP (ci := 0) (q0 := 0) rfl rfl, oo_ps hP hK [0, 1, 2, 3, 4, 5] rfl [0] rfl⟩ rfl rfl hl.1 rfl (lv_room (Nat.le_of_ble_eq_true rfl)) dX0_same_29 ⟨Nat.le_of_ble_eq_true rfl, Nat.le_of_ble_eq_true rfl⟩) hP hS (fun H locs hP hS => ?_)
          refine lv_aload_n hx hb dX0_same_32 rfl (lv_at hl 0 rfl) ?_
          refine lv_iload_n hx hb dX0_same_33 rfl (lv_at hl 2 rfl) ?_
          refine lv_iload_n hx hb dX0_same_34 rfl (lv_at hl 3 rfl) ?_
          refine ro_calll (va_runV (As := [.int r, .int (nI n)]) (rest := [.long (kvX0_blockOf an qn q (nI n))]) ⟨hx, hb, hml, hown, hts⟩ (kX0_blockOf l D cJ h a1 a2 a3 a4 a5 u d lw uw an fn qn sd r (nI n)) (cwV 2 hts gX0_same_X0_blockOf rfl rfl rfl ok_X0_blockOf ⟨Nat.le_of_ble_eq_true rfl, Nat.le_of_ble_eq_true rfl⟩) ⟨oo_blind, va_recv hK hP (ci := 0) (q0 := 0) rfl rfl, oo_ps hP hK [0, 1, 2, 3, 4, 5] rfl [0] rfl⟩ rfl rfl hl.1 rfl (lv_room (Nat.le_of_ble_eq_true rfl)) dX0_same_35 ⟨Nat.le_of_ble_eq_true rfl, Nat.le_of_ble_eq_true rfl⟩) hP hS (fun H locs hP hS => ?_)
          refine W.lcmp hx hb dX0_same_38 ?_
          refine lv_if_eq (tgt := 44) hx hb dX0_same_39 (by decide) (fun c_39 => ?_) (fun c_39 => ?_)
          · refine lv_iinc (v := nI (n + 1)) (lv' := [(3, .int (nI (n + 1))), (0, .ref h), (1, .int q), (2, .int r)]) hx hb dX0_same_44 hl (k := 3) rfl (oo_inc n 1) (by decide) rfl (fun ls hl => ?_)
            refine lv_goto (tgt := 20) hx hb dX0_same_47 (by decide) ?_
            have hl : lv_has ls 4 [(0, .ref h), (1, .int q), (2, .int r), (3, .int (nI (n + 1)))] := lv_sub hl [1, 2, 3, 0] rfl
            exact ihn _ _ _ ⟨hP, hS, hl, lt_s hE c_39⟩
          · refine lv_iconst (v := (0 : Int32)) hx hb dX0_same_42 (by decide) ?_
            exact ro_reti hx hb hr hlocks hS (by unfold kvX0_same; rw [if_neg c_5, if_neg c_13, if_neg (fun h => c_39 (h n hltn))]) dX0_same_43
    · refine lv_iconst (v := (-1 : Int32)) hx hb dX0_same_16 (by decide) ?_
      exact ro_reti hx hb hr hlocks hS (by unfold kvX0_same; rw [if_neg c_5, if_pos c_13]) dX0_same_17
def kl_lcg (sd : Int64) : Int64 := (sd * (25214903917 : Int64) + (11 : Int64)) &&& (281474976710655 : Int64)
theorem ok_X0_draw : yX0_draw.cls = RX0 ∧ yX0_draw.cls ≠ "java/lang/invoke/MethodHandle" ∧ yX0_draw.cls ≠ "java/lang/invoke/VarHandle" ∧ (parseMethodDescriptor yX0_draw.desc).map (fun d => d.parameters.length) = some 0 := by decide +kernel
def kvX0_draw (sd : Int64) : Int64 := ((kl_lcg sd).toUInt64 >>> ((nI 17).toInt64.toUInt64 &&& Int64.toUInt64 63)).toInt64
set_option maxHeartbeats 4000000 in
set_option maxRecDepth 100000 in
theorem kX0_draw (l : Launch) (D : va_G) (cJ : ClassId) (h a1 a2 a3 a4 a5 : Nat) (u d lw uw an : Nat → Int64) (fn qn : Nat) (sd : Int64)  : MuL l yX0_draw wsX0_draw ({ frames := 0, cells := 0, slots := 0, locals := 0 } : Room) [.ref h] D (xW cJ h a1 a2 a3 a4 a5 u d lw uw an (nI fn) (nI qn) sd) [(cJ, .long)] (xW cJ h a1 a2 a3 a4 a5 u d lw uw an (nI fn) (nI qn) (kl_lcg sd)) (kvX0_draw sd) := by
  intro sz
  refine oo_head (C := RX0) (cc := cX0_draw) (maxL := 1) (ret := (some .long)) (by decide) rfl rfl (Nat.le_of_ble_eq_true rfl) ?_
  intro p e s m below meth c hx hb hr hlocks hml hown hnm hts hpre ls hl
  have hl : lv_has ls 1 [(0, .ref h)] := hl
  obtain ⟨rfl, hP, hK, hD0⟩ := hpre
  have hD := hD0.self (sz := s.heap.size)
  have hA := oo_A (xW cJ h a1 a2 a3 a4 a5 u d lw uw an (nI fn) (nI qn) sd) s
  have hS : va_S (va_A (xW cJ h a1 a2 a3 a4 a5 u d lw uw an (nI fn) (nI qn) sd) s.heap.size) s.heap s.heap [] := va_S.rf
  have hin : ∀ w ∈ wsX00, w ∈ wsX0_draw := fun w h => List.mem_cons_of_mem _ (List.mem_append_right _ h)
  refine lv_aload_n hx hb dX0_draw_0 rfl (lv_at hl 0 rfl) ?_
  refine lv_aload_n hx hb dX0_draw_1 rfl (lv_at hl 0 rfl) ?_
  refine va_get (D := D) (ci := 0) (v := .long sd) (C := RX0) (T := TX0) (N := 8) hx hb hts hin hown hK hP 0 rfl rfl 7 (by decide) (hts (.fieldLink RX0 32 "OddsSampling" "lastSeed" "J") (by decide +kernel)) (fun _ h9 => h9) rfl dX0_draw_2 ?_
  refine lv_ldc2 hx hb hown (hts (.constantLong RX0 181 (25214903917)) (by decide +kernel)) dX0_draw_5 ?_
  refine lv_lmul hx hb dX0_draw_8 ?_
  refine lv_ldc2 hx hb hown (hts (.constantLong RX0 183 (11)) (by decide +kernel)) dX0_draw_9 ?_
  refine lv_ladd hx hb dX0_draw_12 ?_
  refine lv_ldc2 hx hb hown (hts (.constantLong RX0 141 (281474976710655)) (by decide +kernel)) dX0_draw_13 ?_
  refine lv_land hx hb dX0_draw_16 ?_
  refine oo_topL (y := kl_lcg sd) rfl ?_
  refine va_put (D := D) (ci := 0) (v := .long (kl_lcg sd)) (ty := .long) (C := RX0) (T := TX0) (N := 8) hx hb hts hin tyX0 tyX0_ok nmX0 hown hK hP hD hS 0 rfl rfl 7 (by decide) (hts (.fieldLink RX0 32 "OddsSampling" "lastSeed" "J") (by decide +kernel)) (fun _ h9 => h9) rfl (by decide +kernel) rfl rfl (Nat.le_of_ble_eq_true rfl) dX0_draw_17 (fun H locs hP hD hS => ?_)
  have hP : va_P D vwCl (xW cJ h a1 a2 a3 a4 a5 u d lw uw an (nI fn) (nI qn) (kl_lcg sd)) H := hP
  have hD : va_D _ (xW cJ h a1 a2 a3 a4 a5 u d lw uw an (nI fn) (nI qn) (kl_lcg sd)) := hD
  refine lv_aload_n hx hb dX0_draw_20 rfl (lv_at hl 0 rfl) ?_
  refine va_get (D := D) (ci := 0) (v := .long (kl_lcg sd)) (C := RX0) (T := TX0) (N := 8) hx hb hts hin hown hK hP 0 rfl rfl 7 (by decide) (hts (.fieldLink RX0 32 "OddsSampling" "lastSeed" "J") (by decide +kernel)) (fun _ h9 => h9) rfl dX0_draw_21 ?_
  refine lv_bipush (v := nI 17) hx hb dX0_draw_24 (by decide) ?_
  refine lv_lushr hx hb dX0_draw_26 rfl ?_
  exact mu_retl hx hb hr hlocks hP hD hS (by unfold kvX0_draw; rfl) dX0_draw_27
def kl_sds (sd : Int64) : Nat → Int64
  | 0 => sd
  | n + 1 => kl_lcg (kl_sds sd n)
def kl_dw (u d : Nat → Int64) (sd : Int64) : Nat → Int32
  | 0 => 0
  | n + 1 => if lg_cmp (kvX0_at 12 d (nI n)) 0 ≤ 0 then kl_dw u d sd n else (if 0 ≤ lg_cmp (kvX0_draw (kl_sds sd n) - kvX0_draw (kl_sds sd n) / kvX0_at 12 d (nI n) * kvX0_at 12 d (nI n)) (kvX0_at 12 u (nI n)) then kl_dw u d sd n else kl_dw u d sd n ||| ((1 : Int32) <<< (nI n &&& 31)))
theorem ok_X0_drawWorld : yX0_drawWorld.cls = RX0 ∧ yX0_drawWorld.cls ≠ "java/lang/invoke/MethodHandle" ∧ yX0_drawWorld.cls ≠ "java/lang/invoke/VarHandle" ∧ (parseMethodDescriptor yX0_drawWorld.desc).map (fun d => d.parameters.length) = some 0 := by decide +kernel
def kvX0_drawWorld (u : Nat → Int64) (d : Nat → Int64) (fn : Nat) (sd : Int64) : Int32 := kl_dw u d sd fn
set_option maxHeartbeats 4000000 in
set_option maxRecDepth 100000 in
theorem kX0_drawWorld (l : Launch) (D : va_G) (cJ : ClassId) (h a1 a2 a3 a4 a5 : Nat) (u d lw uw an : Nat → Int64) (fn qn : Nat) (sd : Int64)  (hfn : fn ≤ 12) : MuI l yX0_drawWorld wsX0_drawWorld ({ frames := 1, cells := 0, slots := 0, locals := 21 } : Room) [.ref h] D (xW cJ h a1 a2 a3 a4 a5 u d lw uw an (nI fn) (nI qn) sd) [(cJ, .long)] (xW cJ h a1 a2 a3 a4 a5 u d lw uw an (nI fn) (nI qn) (kl_sds sd fn)) (kvX0_drawWorld u d fn sd) := by
  intro sz
  refine oo_head (C := RX0) (cc := cX0_drawWorld) (maxL := 7) (ret := (some .int)) (by decide) rfl rfl (Nat.le_of_ble_eq_true rfl) ?_
  intro p e s m below meth c hx hb hr hlocks hml hown hnm hts hpre ls hl
  have hl : lv_has ls 7 [(0, .ref h)] := hl
  obtain ⟨rfl, hP, hK, hD0⟩ := hpre
  have hD := hD0.self (sz := s.heap.size)
  have hA := oo_A (xW cJ h a1 a2 a3 a4 a5 u d lw uw an (nI fn) (nI qn) sd) s
  have hS : va_S (va_A (xW cJ h a1 a2 a3 a4 a5 u d lw uw an (nI fn) (nI qn) sd) s.heap.size) s.heap s.heap [] := va_S.rf
  have hin : ∀ w ∈ wsX00, w ∈ wsX0_drawWorld := fun w h => List.mem_cons_of_mem _ (List.mem_append_right _ h)
  refine lv_iconst (v := (0 : Int32)) hx hb dX0_drawWorld_0 (by decide) ?_
  refine lv_istore_n (lv' := [(1, .int (0 : Int32)), (0, .ref h)]) hx hb dX0_drawWorld_1 rfl hl (by decide) rfl (fun ls hl => ?_)
  refine lv_iconst (v := nI 0) hx hb dX0_drawWorld_2 (by decide) ?_
  refine lv_istore_n (lv' := [(2, .int (nI 0)), (1, .int (0 : Int32)), (0, .ref h)]) hx hb dX0_drawWorld_3 rfl hl (by decide) rfl (fun ls hl => ?_)
  have hl : lv_has ls 7 [(0, .ref h), (1, .int (0 : Int32)), (2, .int (nI 0))] := lv_sub hl [2, 1, 0] rfl
  have hl := Eq.mp (congrArg (fun z9 => lv_has ls 7 [(0, .ref h), (1, .int z9), (2, .int (nI 0))]) (show (0 : Int32) = kl_dw u d sd 0 from (by first | rfl | (simp only [kl_dw, kl_sds]; done)))) hl
  have hP := Eq.mp (congrArg (fun z9 => va_P D vwCl (xW cJ h a1 a2 a3 a4 a5 u d lw uw an (nI fn) (nI qn) z9) s.heap) (show sd = kl_sds sd 0 from (by first | rfl | (simp only [kl_dw, kl_sds]; done)))) hP
  have hP : va_P D vwCl (xW cJ h a1 a2 a3 a4 a5 u d lw uw an (nI fn) (nI qn) (kl_sds sd 0)) s.heap := hP
  have hD : va_D _ (xW cJ h a1 a2 a3 a4 a5 u d lw uw an (nI fn) (nI qn) (kl_sds sd 0)) := oo_Dre hD rfl
  refine oo_loop (N := fn) (fun n H locs ls => va_P D vwCl (xW cJ h a1 a2 a3 a4 a5 u d lw uw an (nI fn) (nI qn) (kl_sds sd n)) H ∧ va_D (va_A (xW cJ h a1 a2 a3 a4 a5 u d lw uw an (nI fn) (nI qn) sd) s.heap.size) (xW cJ h a1 a2 a3 a4 a5 u d lw uw an (nI fn) (nI qn) (kl_sds sd n)) ∧ va_S (va_A (xW cJ h a1 a2 a3 a4 a5 u d lw uw an (nI fn) (nI qn) sd) s.heap.size) s.heap H locs ∧ lv_has ls 7 [(0, .ref h), (1, .int (kl_dw u d sd n)), (2, .int (nI n))]) ?_ ?_ 0 (Nat.zero_le _) ⟨hP, hD, hS, hl⟩
  · intro H locs ls hI
    obtain ⟨hP, hD, hS, hl⟩ := hI
    refine lv_iload_n hx hb dX0_drawWorld_4 rfl (lv_at hl 2 rfl) ?_
    refine lv_aload_n hx hb dX0_drawWorld_5 rfl (lv_at hl 0 rfl) ?_
    refine va_get (D := D) (ci := 0) (v := .int (nI fn)) (C := RX0) (T := TX0) (N := 8) hx hb hts hin hown hK hP 0 rfl rfl 5 (by decide) (hts (.fieldLink RX0 25 "OddsSampling" "factCount" "I") (by decide +kernel)) (fun _ h9 => h9) rfl dX0_drawWorld_6 ?_
    refine lv_icmp_ge (tgt := 62) hx hb dX0_drawWorld_9 (by decide) (fun c_9 => ?_) (fun c_9 => ?_)
    · refine lv_iload_n hx hb dX0_drawWorld_62 rfl (lv_at hl 1 rfl) ?_
      exact mu_reti hx hb hr hlocks hP hD hS (by unfold kvX0_drawWorld; rfl) dX0_drawWorld_63
    · exact absurd (nI_le (Nat.le_refl _) (by omega)) c_9
  · intro n hltn ihn H locs ls hI
    obtain ⟨hP, hD, hS, hl⟩ := hI
    refine lv_iload_n hx hb dX0_drawWorld_4 rfl (lv_at hl 2 rfl) ?_
    refine lv_aload_n hx hb dX0_drawWorld_5 rfl (lv_at hl 0 rfl) ?_
    refine va_get (D := D) (ci := 0) (v := .int (nI fn)) (C := RX0) (T := TX0) (N := 8) hx hb hts hin hown hK hP 0 rfl rfl 5 (by decide) (hts (.fieldLink RX0 25 "OddsSampling" "factCount" "I") (by decide +kernel)) (fun _ h9 => h9) rfl dX0_drawWorld_6 ?_
    refine lv_icmp_ge (tgt := 62) hx hb dX0_drawWorld_9 (by decide) (fun c_9 => ?_) (fun c_9 => ?_)
    · exact absurd c_9 (nI_ge hltn (by omega))
    · refine lv_aload_n hx hb dX0_drawWorld_12 rfl (lv_at hl 0 rfl) ?_
      refine mu_calll (va_runV (As := []) (rest := []) ⟨hx, hb, hml, hown, hts⟩ (kX0_draw l D cJ h a1 a2 a3 a4 a5 u d lw uw an fn qn (kl_sds sd n) _) (cwV 0 hts gX0_drawWorld_X0_draw rfl rfl rfl ok_X0_draw ⟨Nat.le_of_ble_eq_true rfl, Nat.le_of_ble_eq_true rfl⟩) ⟨oo_blindM, va_recv hK hP (ci := 0) (q0 := 0) rfl rfl, oo_psM hP hD hK [0, 1, 2, 3, 4, 5] rfl rfl [0] rfl⟩ rfl rfl hl.1 rfl (lv_room (Nat.le_of_ble_eq_true rfl)) dX0_drawWorld_13 ⟨Nat.le_of_ble_eq_true rfl, Nat.le_of_ble_eq_true rfl⟩) hP hD hS hA [0, 1, 2, 3, 4, 5] rfl rfl (fun H locs hP hD hS => ?_)
      have hP : va_P D vwCl (xW cJ h a1 a2 a3 a4 a5 u d lw uw an (nI fn) (nI qn) (kl_lcg (kl_sds sd n))) H := hP
      have hD : va_D _ (xW cJ h a1 a2 a3 a4 a5 u d lw uw an (nI fn) (nI qn) (kl_lcg (kl_sds sd n))) := hD
      refine lv_lstore_n (lv' := [(3, .long (kvX0_draw (kl_sds sd n))), (0, .ref h), (1, .int (kl_dw u d sd n)), (2, .int (nI n))]) hx hb dX0_drawWorld_16 rfl hl (by decide) rfl (fun ls hl => ?_)
      refine lv_aload_n hx hb dX0_drawWorld_17 rfl (lv_at hl 1 rfl) ?_
      refine va_get (D := D) (ci := 0) (v := .ref a2) (C := RX0) (T := TX0) (N := 8) hx hb hts hin hown hK hP 0 rfl rfl 1 (by decide) (hts (.fieldLink RX0 13 "OddsSampling" "downs" "[J") (by decide +kernel)) (fun _ h9 => h9) rfl dX0_drawWorld_18 ?_
      refine lv_iload_n hx hb dX0_drawWorld_21 rfl (lv_at hl 3 rfl) ?_
      refine ro_calll (va_runS (As := [.ref a2, .int (nI n)]) (rest := []) ⟨hx, hb, hml, hown, hts⟩ (kX0_at l D cJ a2 12 d (nI n) (by omega)) (va_cwS 2 hts gX0_drawWorld_X0_at rfl rfl rfl ok_X0_at ⟨Nat.le_of_ble_eq_true rfl, Nat.le_of_ble_eq_true rfl⟩) ⟨oo_blind, oo_ps hP hK [2] rfl [0] rfl⟩ rfl rfl hl.1 rfl (lv_room (Nat.le_of_ble_eq_true rfl)) dX0_drawWorld_22 ⟨Nat.le_of_ble_eq_true rfl, Nat.le_of_ble_eq_true rfl⟩) hP hS (fun H locs hP hS => ?_)
      refine lv_lstore (lv' := [(5, .long (kvX0_at 12 d (nI n))), (3, .long (kvX0_draw (kl_sds sd n))), (0, .ref h), (1, .int (kl_dw u d sd n)), (2, .int (nI n))]) hx hb dX0_drawWorld_25 hl (by decide) rfl (fun ls hl => ?_)
      refine lv_lload hx hb dX0_drawWorld_27 (lv_at hl 0 rfl) ?_
      refine lv_lconst (v := (0 : Int64)) hx hb dX0_drawWorld_29 (by decide) ?_
      refine W.lcmp hx hb dX0_drawWorld_30 ?_
      refine lv_if_le (tgt := 56) hx hb dX0_drawWorld_31 (by decide) (fun c_31 => ?_) (fun c_31 => ?_)
      · refine lv_iinc (v := nI (n + 1)) (lv' := [(2, .int (nI (n + 1))), (5, .long (kvX0_at 12 d (nI n))), (3, .long (kvX0_draw (kl_sds sd n))), (0, .ref h), (1, .int (kl_dw u d sd n))]) hx hb dX0_drawWorld_56 hl (k := 4) rfl (oo_inc n 1) (by decide) rfl (fun ls hl => ?_)
        refine lv_goto (tgt := 4) hx hb dX0_drawWorld_59 (by decide) ?_
        have hl : lv_has ls 7 [(0, .ref h), (1, .int (kl_dw u d sd n)), (2, .int (nI (n + 1)))] := lv_sub hl [3, 4, 0] rfl
        have hl := Eq.mp (congrArg (fun z9 => lv_has ls 7 [(0, .ref h), (1, .int z9), (2, .int (nI (n + 1)))]) (show kl_dw u d sd n = kl_dw u d sd (n + 1) from (by first | rfl | (simp only [kl_dw, kl_sds]; done) | (simp only [kl_dw, kl_sds]; rw [if_pos c_31])))) hl
        have hP := Eq.mp (congrArg (fun z9 => va_P D vwCl (xW cJ h a1 a2 a3 a4 a5 u d lw uw an (nI fn) (nI qn) z9) H) (show kl_lcg (kl_sds sd n) = kl_sds sd (n + 1) from (by first | rfl | (simp only [kl_dw, kl_sds]; done) | (simp only [kl_dw, kl_sds]; rw [if_pos c_31])))) hP
        have hP : va_P D vwCl (xW cJ h a1 a2 a3 a4 a5 u d lw uw an (nI fn) (nI qn) (kl_sds sd (n + 1))) H := hP
        have hD : va_D _ (xW cJ h a1 a2 a3 a4 a5 u d lw uw an (nI fn) (nI qn) (kl_sds sd (n + 1))) := oo_Dre hD rfl
        exact ihn _ _ _ ⟨hP, hD, hS, hl⟩
      · refine lv_lload_n hx hb dX0_drawWorld_34 rfl (lv_at hl 1 rfl) ?_
        refine lv_lload hx hb dX0_drawWorld_35 (lv_at hl 0 rfl) ?_
        refine lv_lrem hx hb dX0_drawWorld_37 (oo_nz c_30) ?_
        refine lv_aload_n hx hb dX0_drawWorld_38 rfl (lv_at hl 2 rfl) ?_
        refine va_get (D := D) (ci := 0) (v := .ref a1) (C := RX0) (T := TX0) (N := 8) hx hb hts hin hown hK hP 0 rfl rfl 0 (by decide) (hts (.fieldLink RX0 9 "OddsSampling" "ups" "[J") (by decide +kernel)) (fun _ h9 => h9) rfl dX0_drawWorld_39 ?_
        refine lv_iload_n hx hb dX0_drawWorld_42 rfl (lv_at hl 4 rfl) ?_
        refine ro_calll (va_runS (As := [.ref a1, .int (nI n)]) (rest := [.long ((kvX0_draw (kl_sds sd n)) - (kvX0_draw (kl_sds sd n)) / (kvX0_at 12 d (nI n)) * (kvX0_at 12 d (nI n)))]) ⟨hx, hb, hml, hown, hts⟩ (kX0_at l D cJ a1 12 u (nI n) (by omega)) (va_cwS 2 hts gX0_drawWorld_X0_at rfl rfl rfl ok_X0_at ⟨Nat.le_of_ble_eq_true rfl, Nat.le_of_ble_eq_true rfl⟩) ⟨oo_blind, oo_ps hP hK [1] rfl [0] rfl⟩ rfl rfl hl.1 rfl (lv_room (Nat.le_of_ble_eq_true rfl)) dX0_drawWorld_43 ⟨Nat.le_of_ble_eq_true rfl, Nat.le_of_ble_eq_true rfl⟩) hP hS (fun H locs hP hS => ?_)
        refine W.lcmp hx hb dX0_drawWorld_46 ?_
        refine lv_if_ge (tgt := 56) hx hb dX0_drawWorld_47 (by decide) (fun c_47 => ?_) (fun c_47 => ?_)
        · refine lv_iinc (v := nI (n + 1)) (lv' := [(2, .int (nI (n + 1))), (5, .long (kvX0_at 12 d (nI n))), (3, .long (kvX0_draw (kl_sds sd n))), (0, .ref h), (1, .int (kl_dw u d sd n))]) hx hb dX0_drawWorld_56 hl (k := 4) rfl (oo_inc n 1) (by decide) rfl (fun ls hl => ?_)
          refine lv_goto (tgt := 4) hx hb dX0_drawWorld_59 (by decide) ?_
          have hl : lv_has ls 7 [(0, .ref h), (1, .int (kl_dw u d sd n)), (2, .int (nI (n + 1)))] := lv_sub hl [3, 4, 0] rfl
          have hl := Eq.mp (congrArg (fun z9 => lv_has ls 7 [(0, .ref h), (1, .int z9), (2, .int (nI (n + 1)))]) (show kl_dw u d sd n = kl_dw u d sd (n + 1) from (by first | rfl | (simp only [kl_dw, kl_sds]; done) | (simp only [kl_dw, kl_sds]; rw [if_neg c_31, if_pos c_47])))) hl
          have hP := Eq.mp (congrArg (fun z9 => va_P D vwCl (xW cJ h a1 a2 a3 a4 a5 u d lw uw an (nI fn) (nI qn) z9) H) (show kl_lcg (kl_sds sd n) = kl_sds sd (n + 1) from (by first | rfl | (simp only [kl_dw, kl_sds]; done) | (simp only [kl_dw, kl_sds]; rw [if_neg c_31, if_pos c_47])))) hP
          have hP : va_P D vwCl (xW cJ h a1 a2 a3 a4 a5 u d lw uw an (nI fn) (nI qn) (kl_sds sd (n + 1))) H := hP
          have hD : va_D _ (xW cJ h a1 a2 a3 a4 a5 u d lw uw an (nI fn) (nI qn) (kl_sds sd (n + 1))) := oo_Dre hD rfl
          exact ihn _ _ _ ⟨hP, hD, hS, hl⟩
        · refine lv_iload_n hx hb dX0_drawWorld_50 rfl (lv_at hl 3 rfl) ?_
          refine lv_iconst (v := (1 : Int32)) hx hb dX0_drawWorld_51 (by decide) ?_
          refine lv_iload_n hx hb dX0_drawWorld_52 rfl (lv_at hl 4 rfl) ?_
          refine lv_ishl hx hb dX0_drawWorld_53 ?_
          refine lv_ior hx hb dX0_drawWorld_54 ?_
          refine lv_istore_n (lv' := [(1, .int ((kl_dw u d sd n) ||| ((1 : Int32) <<< ((nI n) &&& 31)))), (5, .long (kvX0_at 12 d (nI n))), (3, .long (kvX0_draw (kl_sds sd n))), (0, .ref h), (2, .int (nI n))]) hx hb dX0_drawWorld_55 rfl hl (by decide) rfl (fun ls hl => ?_)
          refine lv_iinc (v := nI (n + 1)) (lv' := [(2, .int (nI (n + 1))), (1, .int ((kl_dw u d sd n) ||| ((1 : Int32) <<< ((nI n) &&& 31)))), (5, .long (kvX0_at 12 d (nI n))), (3, .long (kvX0_draw (kl_sds sd n))), (0, .ref h)]) hx hb dX0_drawWorld_56 hl (k := 4) rfl (oo_inc n 1) (by decide) rfl (fun ls hl => ?_)
          refine lv_goto (tgt := 4) hx hb dX0_drawWorld_59 (by decide) ?_
          have hl : lv_has ls 7 [(0, .ref h), (1, .int ((kl_dw u d sd n) ||| ((1 : Int32) <<< ((nI n) &&& 31)))), (2, .int (nI (n + 1)))] := lv_sub hl [4, 1, 0] rfl
          have hl := Eq.mp (congrArg (fun z9 => lv_has ls 7 [(0, .ref h), (1, .int z9), (2, .int (nI (n + 1)))]) (show (kl_dw u d sd n) ||| ((1 : Int32) <<< ((nI n) &&& 31)) = kl_dw u d sd (n + 1) from (by first | rfl | (simp only [kl_dw, kl_sds]; done) | (simp only [kl_dw, kl_sds]; rw [if_neg c_31, if_neg c_47])))) hl
          have hP := Eq.mp (congrArg (fun z9 => va_P D vwCl (xW cJ h a1 a2 a3 a4 a5 u d lw uw an (nI fn) (nI qn) z9) H) (show kl_lcg (kl_sds sd n) = kl_sds sd (n + 1) from (by first | rfl | (simp only [kl_dw, kl_sds]; done) | (simp only [kl_dw, kl_sds]; rw [if_neg c_31, if_neg c_47])))) hP
          have hP : va_P D vwCl (xW cJ h a1 a2 a3 a4 a5 u d lw uw an (nI fn) (nI qn) (kl_sds sd (n + 1))) H := hP
          have hD : va_D _ (xW cJ h a1 a2 a3 a4 a5 u d lw uw an (nI fn) (nI qn) (kl_sds sd (n + 1))) := oo_Dre hD rfl
          exact ihn _ _ _ ⟨hP, hD, hS, hl⟩
def kl_samS (sd : Int64) (fn : Nat) : Nat → Int64
  | 0 => sd
  | n + 1 => kl_sds (kl_samS sd fn n) fn
def kl_samC (u d an : Nat → Int64) (fn qn : Nat) (q : Int32) (sd : Int64) : Nat → Int32
  | 0 => 0
  | n + 1 => if kvX0_isTrue an qn q (kvX0_drawWorld u d fn (kl_samS sd fn n)) = 0 then kl_samC u d an fn qn q sd n else kl_samC u d an fn qn q sd n + 1
theorem oo_cnt {x : Int32} (h : ¬ x < 0) : x = nI x.toNatClampNeg := by
  obtain ⟨j, hj, rfl⟩ := nI_of h
  rw [nI_clamp hj]
theorem oo_cntL {x : Int32} {M : Nat} (hM : M < 2 ^ 31) (h : ¬ x < 0) (h2 : x ≤ nI M) : x.toNatClampNeg ≤ M := by
  obtain ⟨j, hj, rfl⟩ := nI_of h
  rw [nI_clamp hj]
  exact (nI_leI hj hM).mp h2
theorem ok_X0_sample : yX0_sample.cls = RX0 ∧ yX0_sample.cls ≠ "java/lang/invoke/MethodHandle" ∧ yX0_sample.cls ≠ "java/lang/invoke/VarHandle" ∧ (parseMethodDescriptor yX0_sample.desc).map (fun d => d.parameters.length) = some 3 := by decide +kernel
def kvX0_sample (u : Nat → Int64) (d : Nat → Int64) (an : Nat → Int64) (fn : Nat) (qn : Nat) (q : Int32) (sd0 : Int64) (ws : Int32) : Int32 := if (kvX0_isQuestion qn q) = 0 then (-1 : Int32) else (if ws < 0 then (-1 : Int32) else (if ws ≤ (nI 200) then (kl_samC u d an fn qn q (sd0 &&& (281474976710655 : Int64)) ws.toNatClampNeg) else (-1 : Int32)))
def kvX0_sample_sd (fn : Nat) (qn : Nat) (sd : Int64) (q : Int32) (sd0 : Int64) (ws : Int32) : Int64 := if (kvX0_isQuestion qn q) = 0 then sd else (if ws < 0 then sd else (if ws ≤ (nI 200) then (kl_samS (sd0 &&& (281474976710655 : Int64)) fn ws.toNatClampNeg) else sd))
set_option maxHeartbeats 4000000 in
set_option maxRecDepth 100000 in
theorem kX0_sample (l : Launch) (D : va_G) (cJ : ClassId) (h a1 a2 a3 a4 a5 : Nat) (u d lw uw an : Nat → Int64) (fn qn : Nat) (sd : Int64) (q : Int32) (sd0 : Int64) (ws : Int32) (hfn : fn ≤ 12) : MuI l yX0_sample wsX0_sample ({ frames := 3, cells := 0, slots := 0, locals := 67 } : Room) [.ref h, .int q, .long sd0, .int ws] D (xW cJ h a1 a2 a3 a4 a5 u d lw uw an (nI fn) (nI qn) sd) [(cJ, .long)] (xW cJ h a1 a2 a3 a4 a5 u d lw uw an (nI fn) (nI qn) (kvX0_sample_sd fn qn sd q sd0 ws)) (kvX0_sample u d an fn qn q sd0 ws) := by
  intro sz
  refine oo_head (C := RX0) (cc := cX0_sample) (maxL := 7) (ret := (some .int)) (by decide) rfl rfl (Nat.le_of_ble_eq_true rfl) ?_
  intro p e s m below meth c hx hb hr hlocks hml hown hnm hts hpre ls hl
  have hl : lv_has ls 7 [(0, .ref h), (1, .int q), (2, .long sd0), (4, .int ws)] := hl
  obtain ⟨rfl, hP, hK, hD0⟩ := hpre
  have hD := hD0.self (sz := s.heap.size)
  have hA := oo_A (xW cJ h a1 a2 a3 a4 a5 u d lw uw an (nI fn) (nI qn) sd) s
  have hS : va_S (va_A (xW cJ h a1 a2 a3 a4 a5 u d lw uw an (nI fn) (nI qn) sd) s.heap.size) s.heap s.heap [] := va_S.rf
  have hin : ∀ w ∈ wsX00, w ∈ wsX0_sample := fun w h => List.mem_cons_of_mem _ (List.mem_append_right _ h)
  refine lv_aload_n hx hb dX0_sample_0 rfl (lv_at hl 0 rfl) ?_
  refine lv_iload_n hx hb dX0_sample_1 rfl (lv_at hl 1 rfl) ?_
  refine ro_calli (va_runV (As := [.int q]) (rest := []) ⟨hx, hb, hml, hown, hts⟩ (kX0_isQuestion l D cJ h a1 a2 a3 a4 a5 u d lw uw an fn qn sd q) (cwV 1 hts gX0_sample_X0_isQuestion rfl rfl rfl ok_X0_isQuestion ⟨Nat.le_of_ble_eq_true rfl, Nat.le_of_ble_eq_true rfl⟩) ⟨oo_blind, va_recv hK hP (ci := 0) (q0 := 0) rfl rfl, oo_ps hP hK [0, 1, 2, 3, 4, 5] rfl [0] rfl⟩ rfl rfl hl.1 rfl (lv_room (Nat.le_of_ble_eq_true rfl)) dX0_sample_2 ⟨Nat.le_of_ble_eq_true rfl, Nat.le_of_ble_eq_true rfl⟩) hP hS (fun H locs hP hS => ?_)
  refine lv_if_eq (tgt := 21) hx hb dX0_sample_5 (by decide) (fun c_5 => ?_) (fun c_5 => ?_)
  · refine lv_iconst (v := (-1 : Int32)) hx hb dX0_sample_21 (by decide) ?_
    have hP := Eq.mp (congrArg (fun z9 => va_P D vwCl (xW cJ h a1 a2 a3 a4 a5 u d lw uw an (nI fn) (nI qn) z9) H) (show sd = kvX0_sample_sd fn qn sd q sd0 ws from (by unfold kvX0_sample_sd; rw [if_pos c_5]))) hP
    have hP : va_P D vwCl (xW cJ h a1 a2 a3 a4 a5 u d lw uw an (nI fn) (nI qn) (kvX0_sample_sd fn qn sd q sd0 ws)) H := hP
    have hD : va_D _ (xW cJ h a1 a2 a3 a4 a5 u d lw uw an (nI fn) (nI qn) (kvX0_sample_sd fn qn sd q sd0 ws)) := oo_Dre hD rfl
    exact mu_reti hx hb hr hlocks hP hD hS (by unfold kvX0_sample; rw [if_pos c_5]) dX0_sample_22
  · refine lv_iload hx hb dX0_sample_8 (lv_at hl 3 rfl) ?_
    refine lv_if_lt (tgt := 21) hx hb dX0_sample_10 (by decide) (fun c_10 => ?_) (fun c_10 => ?_)
    · refine lv_iconst (v := (-1 : Int32)) hx hb dX0_sample_21 (by decide) ?_
      have hP := Eq.mp (congrArg (fun z9 => va_P D vwCl (xW cJ h a1 a2 a3 a4 a5 u d lw uw an (nI fn) (nI qn) z9) H) (show sd = kvX0_sample_sd fn qn sd q sd0 ws from (by unfold kvX0_sample_sd; rw [if_neg c_5, if_pos c_10]))) hP
      have hP : va_P D vwCl (xW cJ h a1 a2 a3 a4 a5 u d lw uw an (nI fn) (nI qn) (kvX0_sample_sd fn qn sd q sd0 ws)) H := hP
      have hD : va_D _ (xW cJ h a1 a2 a3 a4 a5 u d lw uw an (nI fn) (nI qn) (kvX0_sample_sd fn qn sd q sd0 ws)) := oo_Dre hD rfl
      exact mu_reti hx hb hr hlocks hP hD hS (by unfold kvX0_sample; rw [if_neg c_5, if_pos c_10]) dX0_sample_22
    · refine lv_iload hx hb dX0_sample_13 (lv_at hl 3 rfl) ?_
      refine lv_sipush (v := nI 200) hx hb dX0_sample_15 (by decide) ?_
      refine lv_icmp_le (tgt := 23) hx hb dX0_sample_18 (by decide) (fun c_18 => ?_) (fun c_18 => ?_)
      · refine lv_aload_n hx hb dX0_sample_23 rfl (lv_at hl 0 rfl) ?_
        refine lv_lload_n hx hb dX0_sample_24 rfl (lv_at hl 2 rfl) ?_
        refine lv_ldc2 hx hb hown (hts (.constantLong RX0 141 (281474976710655)) (by decide +kernel)) dX0_sample_25 ?_
        refine lv_land hx hb dX0_sample_28 ?_
        refine va_put (D := D) (ci := 0) (v := .long (sd0 &&& (281474976710655 : Int64))) (ty := .long) (C := RX0) (T := TX0) (N := 8) hx hb hts hin tyX0 tyX0_ok nmX0 hown hK hP hD hS 0 rfl rfl 7 (by decide) (hts (.fieldLink RX0 32 "OddsSampling" "lastSeed" "J") (by decide +kernel)) (fun _ h9 => h9) rfl (by decide +kernel) rfl rfl (Nat.le_of_ble_eq_true rfl) dX0_sample_29 (fun H locs hP hD hS => ?_)
        have hP : va_P D vwCl (xW cJ h a1 a2 a3 a4 a5 u d lw uw an (nI fn) (nI qn) (sd0 &&& (281474976710655 : Int64))) H := hP
        have hD : va_D _ (xW cJ h a1 a2 a3 a4 a5 u d lw uw an (nI fn) (nI qn) (sd0 &&& (281474976710655 : Int64))) := hD
        have hwn : ws.toNatClampNeg ≤ 200 := oo_cntL (by omega) c_10 c_18
        refine lv_iconst (v := (0 : Int32)) hx hb dX0_sample_32 (by decide) ?_
        refine lv_istore (lv' := [(5, .int (0 : Int32)), (0, .ref h), (1, .int q), (2, .long sd0), (4, .int ws)]) hx hb dX0_sample_33 hl (by decide) rfl (fun ls hl => ?_)
        refine lv_iconst (v := nI 0) hx hb dX0_sample_35 (by decide) ?_
        refine lv_istore (lv' := [(6, .int (nI 0)), (5, .int (0 : Int32)), (0, .ref h), (1, .int q), (2, .long sd0), (4, .int ws)]) hx hb dX0_sample_36 hl (by decide) rfl (fun ls hl => ?_)
        have hl : lv_has ls 7 [(0, .ref h), (1, .int q), (4, .int ws), (5, .int (0 : Int32)), (6, .int (nI 0))] := lv_sub hl [2, 3, 5, 1, 0] rfl
        have hl := Eq.mp (congrArg (fun z9 => lv_has ls 7 [(0, .ref h), (1, .int q), (4, .int ws), (5, .int z9), (6, .int (nI 0))]) (show (0 : Int32) = kl_samC u d an fn qn q (sd0 &&& (281474976710655 : Int64)) 0 from (by first | rfl | (simp only [kl_samS, kl_samC]; done) | (simp only [kl_samS, kl_samC]; rw [if_neg c_5, if_neg c_10, if_pos c_18])))) hl
        have hP := Eq.mp (congrArg (fun z9 => va_P D vwCl (xW cJ h a1 a2 a3 a4 a5 u d lw uw an (nI fn) (nI qn) z9) H) (show sd0 &&& (281474976710655 : Int64) = kl_samS (sd0 &&& (281474976710655 : Int64)) fn 0 from (by first | rfl | (simp only [kl_samS, kl_samC]; done) | (simp only [kl_samS, kl_samC]; rw [if_neg c_5, if_neg c_10, if_pos c_18])))) hP
        have hP : va_P D vwCl (xW cJ h a1 a2 a3 a4 a5 u d lw uw an (nI fn) (nI qn) (kl_samS (sd0 &&& (281474976710655 : Int64)) fn 0)) H := hP
        have hD : va_D _ (xW cJ h a1 a2 a3 a4 a5 u d lw uw an (nI fn) (nI qn) (kl_samS (sd0 &&& (281474976710655 : Int64)) fn 0)) := oo_Dre hD rfl
        refine oo_loop (N := ws.toNatClampNeg) (fun n H locs ls => va_P D vwCl (xW cJ h a1 a2 a3 a4 a5 u d lw uw an (nI fn) (nI qn) (kl_samS (sd0 &&& (281474976710655 : Int64)) fn n)) H ∧ va_D (va_A (xW cJ h a1 a2 a3 a4 a5 u d lw uw an (nI fn) (nI qn) sd) s.heap.size) (xW cJ h a1 a2 a3 a4 a5 u d lw uw an (nI fn) (nI qn) (kl_samS (sd0 &&& (281474976710655 : Int64)) fn n)) ∧ va_S (va_A (xW cJ h a1 a2 a3 a4 a5 u d lw uw an (nI fn) (nI qn) sd) s.heap.size) s.heap H locs ∧ lv_has ls 7 [(0, .ref h), (1, .int q), (4, .int ws), (5, .int (kl_samC u d an fn qn q (sd0 &&& (281474976710655 : Int64)) n)), (6, .int (nI n))]) ?_ ?_ 0 (Nat.zero_le _) ⟨hP, hD, hS, hl⟩
        · intro H locs ls hI
          obtain ⟨hP, hD, hS, hl⟩ := hI
          refine lv_iload hx hb dX0_sample_38 (lv_at hl 4 rfl) ?_
          refine lv_iload hx hb dX0_sample_40 (lv_at hl 2 rfl) ?_
          refine oo_topI (y := nI ws.toNatClampNeg) (oo_cnt c_10) ?_
          refine lv_icmp_ge (tgt := 66) hx hb dX0_sample_42 (by decide) (fun c_42 => ?_) (fun c_42 => ?_)
          · refine lv_iload hx hb dX0_sample_66 (lv_at hl 3 rfl) ?_
            have hP := Eq.mp (congrArg (fun z9 => va_P D vwCl (xW cJ h a1 a2 a3 a4 a5 u d lw uw an (nI fn) (nI qn) z9) H) (show kl_samS (sd0 &&& (281474976710655 : Int64)) fn ws.toNatClampNeg = kvX0_sample_sd fn qn sd q sd0 ws from (by unfold kvX0_sample_sd; rw [if_neg c_5, if_neg c_10, if_pos c_18]))) hP
            have hP : va_P D vwCl (xW cJ h a1 a2 a3 a4 a5 u d lw uw an (nI fn) (nI qn) (kvX0_sample_sd fn qn sd q sd0 ws)) H := hP
            have hD : va_D _ (xW cJ h a1 a2 a3 a4 a5 u d lw uw an (nI fn) (nI qn) (kvX0_sample_sd fn qn sd q sd0 ws)) := oo_Dre hD rfl
            exact mu_reti hx hb hr hlocks hP hD hS (by unfold kvX0_sample; rw [if_neg c_5, if_neg c_10, if_pos c_18]) dX0_sample_68
          · exact absurd (nI_le (Nat.le_refl _) (by omega)) c_42
        · intro n hltn ihn H locs ls hI
          obtain ⟨hP, hD, hS, hl⟩ := hI
          refine lv_iload hx hb dX0_sample_38 (lv_at hl 4 rfl) ?_
          refine lv_iload hx hb dX0_sample_40 (lv_at hl 2 rfl) ?_
          refine oo_topI (y := nI ws.toNatClampNeg) (oo_cnt c_10) ?_
          refine lv_icmp_ge (tgt := 66) hx hb dX0_sample_42 (by decide) (fun c_42 => ?_) (fun c_42 => ?_)
          · exact absurd c_42 (nI_ge hltn (by omega))
          · refine lv_aload_n hx hb dX0_sample_45 rfl (lv_at hl 0 rfl) ?_
            refine lv_iload_n hx hb dX0_sample_46 rfl (lv_at hl 1 rfl) ?_
            refine lv_aload_n hx hb dX0_sample_47 rfl (lv_at hl 0 rfl) ?_
            refine mu_calli (va_runV (As := []) (rest := [.int q, .ref h]) ⟨hx, hb, hml, hown, hts⟩ (kX0_drawWorld l D cJ h a1 a2 a3 a4 a5 u d lw uw an fn qn (kl_samS (sd0 &&& (281474976710655 : Int64)) fn n) hfn _) (cwV 0 hts gX0_sample_X0_drawWorld rfl rfl rfl ok_X0_drawWorld ⟨Nat.le_of_ble_eq_true rfl, Nat.le_of_ble_eq_true rfl⟩) ⟨oo_blindM, va_recv hK hP (ci := 0) (q0 := 0) rfl rfl, oo_psM hP hD hK [0, 1, 2, 3, 4, 5] rfl rfl [0] rfl⟩ rfl rfl hl.1 rfl (lv_room (Nat.le_of_ble_eq_true rfl)) dX0_sample_48 ⟨Nat.le_of_ble_eq_true rfl, Nat.le_of_ble_eq_true rfl⟩) hP hD hS hA [0, 1, 2, 3, 4, 5] rfl rfl (fun H locs hP hD hS => ?_)
            have hP : va_P D vwCl (xW cJ h a1 a2 a3 a4 a5 u d lw uw an (nI fn) (nI qn) (kl_sds (kl_samS (sd0 &&& (281474976710655 : Int64)) fn n) fn)) H := hP
            have hD : va_D _ (xW cJ h a1 a2 a3 a4 a5 u d lw uw an (nI fn) (nI qn) (kl_sds (kl_samS (sd0 &&& (281474976710655 : Int64)) fn n) fn)) := hD
            refine ro_calli (va_runV (As := [.int q, .int (kvX0_drawWorld u d fn (kl_samS (sd0 &&& (281474976710655 : Int64)) fn n))]) (rest := []) ⟨hx, hb, hml, hown, hts⟩ (kX0_isTrue l D cJ h a1 a2 a3 a4 a5 u d lw uw an fn qn (kl_sds (kl_samS (sd0 &&& (281474976710655 : Int64)) fn n) fn) q (kvX0_drawWorld u d fn (kl_samS (sd0 &&& (281474976710655 : Int64)) fn n))) (cwV 2 hts gX0_sample_X0_isTrue rfl rfl rfl ok_X0_isTrue ⟨Nat.le_of_ble_eq_true rfl, Nat.le_of_ble_eq_true rfl⟩) ⟨oo_blind, va_recv hK hP (ci := 0) (q0 := 0) rfl rfl, oo_ps hP hK [0, 1, 2, 3, 4, 5] rfl [0] rfl⟩ rfl rfl hl.1 rfl (lv_room (Nat.le_of_ble_eq_true rfl)) dX0_sample_51 ⟨Nat.le_of_ble_eq_true rfl, Nat.le_of_ble_eq_true rfl⟩) hP hS (fun H locs hP hS => ?_)
            refine lv_if_eq (tgt := 60) hx hb dX0_sample_54 (by decide) (fun c_54 => ?_) (fun c_54 => ?_)
            · refine lv_iinc (v := nI (n + 1)) (lv' := [(6, .int (nI (n + 1))), (0, .ref h), (1, .int q), (4, .int ws), (5, .int (kl_samC u d an fn qn q (sd0 &&& (281474976710655 : Int64)) n))]) hx hb dX0_sample_60 hl (k := 4) rfl (oo_inc n 1) (by decide) rfl (fun ls hl => ?_)
              refine lv_goto (tgt := 38) hx hb dX0_sample_63 (by decide) ?_
              have hl : lv_has ls 7 [(0, .ref h), (1, .int q), (4, .int ws), (5, .int (kl_samC u d an fn qn q (sd0 &&& (281474976710655 : Int64)) n)), (6, .int (nI (n + 1)))] := lv_sub hl [1, 2, 3, 4, 0] rfl
              have hl := Eq.mp (congrArg (fun z9 => lv_has ls 7 [(0, .ref h), (1, .int q), (4, .int ws), (5, .int z9), (6, .int (nI (n + 1)))]) (show kl_samC u d an fn qn q (sd0 &&& (281474976710655 : Int64)) n = kl_samC u d an fn qn q (sd0 &&& (281474976710655 : Int64)) (n + 1) from (by first | rfl | (simp only [kl_samS, kl_samC]; done) | (simp only [kl_samS, kl_samC]; rw [if_pos c_54])))) hl
              have hP := Eq.mp (congrArg (fun z9 => va_P D vwCl (xW cJ h a1 a2 a3 a4 a5 u d lw uw an (nI fn) (nI qn) z9) H) (show kl_sds (kl_samS (sd0 &&& (281474976710655 : Int64)) fn n) fn = kl_samS (sd0 &&& (281474976710655 : Int64)) fn (n + 1) from (by first | rfl | (simp only [kl_samS, kl_samC]; done) | (simp only [kl_samS, kl_samC]; rw [if_pos c_54])))) hP
              have hP : va_P D vwCl (xW cJ h a1 a2 a3 a4 a5 u d lw uw an (nI fn) (nI qn) (kl_samS (sd0 &&& (281474976710655 : Int64)) fn (n + 1))) H := hP
              have hD : va_D _ (xW cJ h a1 a2 a3 a4 a5 u d lw uw an (nI fn) (nI qn) (kl_samS (sd0 &&& (281474976710655 : Int64)) fn (n + 1))) := oo_Dre hD rfl
              exact ihn _ _ _ ⟨hP, hD, hS, hl⟩
            · refine lv_iinc (v := (kl_samC u d an fn qn q (sd0 &&& (281474976710655 : Int64)) n) + 1) (lv' := [(5, .int ((kl_samC u d an fn qn q (sd0 &&& (281474976710655 : Int64)) n) + 1)), (0, .ref h), (1, .int q), (4, .int ws), (6, .int (nI n))]) hx hb dX0_sample_57 hl (k := 3) rfl rfl (by decide) rfl (fun ls hl => ?_)
              refine lv_iinc (v := nI (n + 1)) (lv' := [(6, .int (nI (n + 1))), (5, .int ((kl_samC u d an fn qn q (sd0 &&& (281474976710655 : Int64)) n) + 1)), (0, .ref h), (1, .int q), (4, .int ws)]) hx hb dX0_sample_60 hl (k := 4) rfl (oo_inc n 1) (by decide) rfl (fun ls hl => ?_)
              refine lv_goto (tgt := 38) hx hb dX0_sample_63 (by decide) ?_
              have hl : lv_has ls 7 [(0, .ref h), (1, .int q), (4, .int ws), (5, .int ((kl_samC u d an fn qn q (sd0 &&& (281474976710655 : Int64)) n) + 1)), (6, .int (nI (n + 1)))] := lv_sub hl [2, 3, 4, 1, 0] rfl
              have hl := Eq.mp (congrArg (fun z9 => lv_has ls 7 [(0, .ref h), (1, .int q), (4, .int ws), (5, .int z9), (6, .int (nI (n + 1)))]) (show (kl_samC u d an fn qn q (sd0 &&& (281474976710655 : Int64)) n) + 1 = kl_samC u d an fn qn q (sd0 &&& (281474976710655 : Int64)) (n + 1) from (by first | rfl | (simp only [kl_samS, kl_samC]; done) | (simp only [kl_samS, kl_samC]; rw [if_neg c_54])))) hl
              have hP := Eq.mp (congrArg (fun z9 => va_P D vwCl (xW cJ h a1 a2 a3 a4 a5 u d lw uw an (nI fn) (nI qn) z9) H) (show kl_sds (kl_samS (sd0 &&& (281474976710655 : Int64)) fn n) fn = kl_samS (sd0 &&& (281474976710655 : Int64)) fn (n + 1) from (by first | rfl | (simp only [kl_samS, kl_samC]; done) | (simp only [kl_samS, kl_samC]; rw [if_neg c_54])))) hP
              have hP : va_P D vwCl (xW cJ h a1 a2 a3 a4 a5 u d lw uw an (nI fn) (nI qn) (kl_samS (sd0 &&& (281474976710655 : Int64)) fn (n + 1))) H := hP
              have hD : va_D _ (xW cJ h a1 a2 a3 a4 a5 u d lw uw an (nI fn) (nI qn) (kl_samS (sd0 &&& (281474976710655 : Int64)) fn (n + 1))) := oo_Dre hD rfl
              exact ihn _ _ _ ⟨hP, hD, hS, hl⟩
      · refine lv_iconst (v := (-1 : Int32)) hx hb dX0_sample_21 (by decide) ?_
        have hP := Eq.mp (congrArg (fun z9 => va_P D vwCl (xW cJ h a1 a2 a3 a4 a5 u d lw uw an (nI fn) (nI qn) z9) H) (show sd = kvX0_sample_sd fn qn sd q sd0 ws from (by unfold kvX0_sample_sd; rw [if_neg c_5, if_neg c_10, if_neg c_18]))) hP
        have hP : va_P D vwCl (xW cJ h a1 a2 a3 a4 a5 u d lw uw an (nI fn) (nI qn) (kvX0_sample_sd fn qn sd q sd0 ws)) H := hP
        have hD : va_D _ (xW cJ h a1 a2 a3 a4 a5 u d lw uw an (nI fn) (nI qn) (kvX0_sample_sd fn qn sd q sd0 ws)) := oo_Dre hD rfl
        exact mu_reti hx hb hr hlocks hP hD hS (by unfold kvX0_sample; rw [if_neg c_5, if_neg c_10, if_neg c_18]) dX0_sample_22
theorem ok_X0_seed : yX0_seed.cls = RX0 ∧ yX0_seed.cls ≠ "java/lang/invoke/MethodHandle" ∧ yX0_seed.cls ≠ "java/lang/invoke/VarHandle" ∧ (parseMethodDescriptor yX0_seed.desc).map (fun d => d.parameters.length) = some 0 := by decide +kernel
def kvX0_seed (sd : Int64) : Int64 := sd
set_option maxHeartbeats 4000000 in
set_option maxRecDepth 100000 in
theorem kX0_seed (l : Launch) (D : va_G) (cJ : ClassId) (h a1 a2 a3 a4 a5 : Nat) (u d lw uw an : Nat → Int64) (fn qn : Nat) (sd : Int64)  : RoL l yX0_seed wsX0_seed ({ frames := 0, cells := 0, slots := 0, locals := 0 } : Room) [.ref h] D (xW cJ h a1 a2 a3 a4 a5 u d lw uw an (nI fn) (nI qn) sd) [(cJ, .long)] (kvX0_seed sd) := by
  refine oo_head (C := RX0) (cc := cX0_seed) (maxL := 1) (ret := (some .long)) (by decide) rfl rfl (Nat.le_of_ble_eq_true rfl) ?_
  intro p e s m below meth c hx hb hr hlocks hml hown hnm hts hpre ls hl
  have hl : lv_has ls 1 [(0, .ref h)] := hl
  obtain ⟨hP, hK⟩ := hpre
  have hS : va_S oo_N s.heap s.heap [] := va_S.rf
  have hin : ∀ w ∈ wsX00, w ∈ wsX0_seed := fun w h => List.mem_cons_of_mem _ (List.mem_append_right _ h)
  refine lv_aload_n hx hb dX0_seed_0 rfl (lv_at hl 0 rfl) ?_
  refine va_get (D := D) (ci := 0) (v := .long sd) (C := RX0) (T := TX0) (N := 8) hx hb hts hin hown hK hP 0 rfl rfl 7 (by decide) (hts (.fieldLink RX0 32 "OddsSampling" "lastSeed" "J") (by decide +kernel)) (fun _ h9 => h9) rfl dX0_seed_1 ?_
  exact ro_retl hx hb hr hlocks hS (by unfold kvX0_seed; rfl) dX0_seed_4
theorem ok_X0_questions : yX0_questions.cls = RX0 ∧ yX0_questions.cls ≠ "java/lang/invoke/MethodHandle" ∧ yX0_questions.cls ≠ "java/lang/invoke/VarHandle" ∧ (parseMethodDescriptor yX0_questions.desc).map (fun d => d.parameters.length) = some 0 := by decide +kernel
def kvX0_questions (qn : Nat) : Int32 := nI qn
set_option maxHeartbeats 4000000 in
set_option maxRecDepth 100000 in
theorem kX0_questions (l : Launch) (D : va_G) (cJ : ClassId) (h a1 a2 a3 a4 a5 : Nat) (u d lw uw an : Nat → Int64) (fn qn : Nat) (sd : Int64)  : RoI l yX0_questions wsX0_questions ({ frames := 0, cells := 0, slots := 0, locals := 0 } : Room) [.ref h] D (xW cJ h a1 a2 a3 a4 a5 u d lw uw an (nI fn) (nI qn) sd) [(cJ, .long)] (kvX0_questions qn) := by
  refine oo_head (C := RX0) (cc := cX0_questions) (maxL := 1) (ret := (some .int)) (by decide) rfl rfl (Nat.le_of_ble_eq_true rfl) ?_
  intro p e s m below meth c hx hb hr hlocks hml hown hnm hts hpre ls hl
  have hl : lv_has ls 1 [(0, .ref h)] := hl
  obtain ⟨hP, hK⟩ := hpre
  have hS : va_S oo_N s.heap s.heap [] := va_S.rf
  have hin : ∀ w ∈ wsX00, w ∈ wsX0_questions := fun w h => List.mem_cons_of_mem _ (List.mem_append_right _ h)
  refine lv_aload_n hx hb dX0_questions_0 rfl (lv_at hl 0 rfl) ?_
  refine va_get (D := D) (ci := 0) (v := .int (nI qn)) (C := RX0) (T := TX0) (N := 8) hx hb hts hin hown hK hP 0 rfl rfl 6 (by decide) (hts (.fieldLink RX0 29 "OddsSampling" "questionCount" "I") (by decide +kernel)) (fun _ h9 => h9) rfl dX0_questions_1 ?_
  exact ro_reti hx hb hr hlocks hS (by unfold kvX0_questions; rfl) dX0_questions_4
theorem kX0_atT (l : Launch) (D : va_G) (t : Nat) (f : Nat → Int64) (i : Int32) : Met l yX0_at wsX0_at ({ frames := 0, cells := 0, slots := 0, locals := 0 } : Room) (va_Pc [.ref t, .int i] (fun U => va_T .long t 6 (fun j => .long (f j)) oo_N U U.heap)) (oo_RQl (kvX0_at 6 f i)) 0 0 oo_N := by
  refine oo_head (C := RX0) (cc := cX0_at) (maxL := 2) (ret := (some .long)) (by decide) rfl rfl (Nat.le_of_ble_eq_true rfl) ?_
  intro p e s m below meth c hx hb hr hlocks hml hown hnm hts hT ls hl
  have hl : lv_has ls 2 [(0, .ref t), (1, .int i)] := hl
  have hS : va_S oo_N s.heap s.heap [] := va_S.rf
  refine lv_aload_n hx hb dX0_at_0 rfl (lv_at hl 0 rfl) ?_
  refine lv_ifnull hx hb dX0_at_1 ?_
  refine lv_iload_n hx hb dX0_at_4 rfl (lv_at hl 1 rfl) ?_
  refine lv_if_lt (tgt := 20) hx hb dX0_at_5 (by decide) (fun c_5 => ?_) (fun c_5 => ?_)
  · refine lv_lconst (v := 0) hx hb dX0_at_20 (by decide) ?_
    exact ro_retl hx hb hr hlocks hS (by unfold kvX0_at; rw [if_pos c_5]) dX0_at_21
  · refine lv_iload_n hx hb dX0_at_8 rfl (lv_at hl 1 rfl) ?_
    refine lv_aload_n hx hb dX0_at_9 rfl (lv_at hl 0 rfl) ?_
    refine va_tlen (v := nI 6) hx hb hT hS rfl dX0_at_10 ?_
    refine lv_icmp_ge (tgt := 20) hx hb dX0_at_11 (by decide) (fun c_11 => ?_) (fun c_11 => ?_)
    · refine lv_lconst (v := 0) hx hb dX0_at_20 (by decide) ?_
      exact ro_retl hx hb hr hlocks hS (by unfold kvX0_at; rw [if_neg c_5, if_pos c_11]) dX0_at_21
    · refine lv_aload_n hx hb dX0_at_14 rfl (lv_at hl 0 rfl) ?_
      refine lv_iload_n hx hb dX0_at_15 rfl (lv_at hl 1 rfl) ?_
      refine va_tl (v := .long (f i.toNatClampNeg)) hx hb hT hS (oo_in (by omega) c_5 c_11) rfl dX0_at_16 ?_
      refine lv_goto (tgt := 21) hx hb dX0_at_17 (by decide) ?_
      exact ro_retl hx hb hr hlocks hS (by unfold kvX0_at; rw [if_neg c_5, if_neg c_11]) dX0_at_21
