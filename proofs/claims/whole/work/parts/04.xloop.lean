theorem oo_shl1 : ∀ n, n < 31 → (1 : Int32) <<< (nI n &&& 31) = nI (2 ^ n) := by decide +kernel
theorem oo_nz {x : Int64} (h : ¬ lg_cmp x 0 ≤ 0) : ¬ x = 0 := by
  intro e; rw [e] at h; exact h (by decide)
theorem oo_nz2 {x : Int64} (h : ¬ lg_cmp x 0 = 0) : ¬ x = 0 := by
  intro e; rw [e] at h; exact h (by decide)
def kl_setB (k w wo : Int32) : Nat → Int64
  | 0 => 0
  | n + 1 => if (((k * nI 64) + nI n) &&& w) = w then (if (((k * nI 64) + nI n) &&& wo) = 0 then kl_setB k w wo n ||| ((1 : Int64) <<< ((nI n).toInt64 &&& 63)) else kl_setB k w wo n) else kl_setB k w wo n
theorem ok_X0_setBlock : yX0_setBlock.cls ≠ "java/lang/invoke/MethodHandle" ∧ yX0_setBlock.cls ≠ "java/lang/invoke/VarHandle" ∧ (parseMethodDescriptor yX0_setBlock.desc).map (fun d => d.parameters.length) = some 3 := by decide +kernel
def kvX0_setBlock (k : Int32) (w : Int32) (wo : Int32) : Int64 := kl_setB k w wo 64
set_option maxHeartbeats 4000000 in
set_option maxRecDepth 100000 in
theorem kX0_setBlock (l : Launch) (D : va_G) (k : Int32) (w : Int32) (wo : Int32) : RoL l yX0_setBlock wsX0_setBlock ({ frames := 0, cells := 0, slots := 0, locals := 0 } : Room) [.int k, .int w, .int wo] D ([]) [] (kvX0_setBlock k w wo) := by
  refine oo_head (C := RX0) (cc := cX0_setBlock) (maxL := 7) (ret := (some .long)) (by decide) rfl rfl (Nat.le_of_ble_eq_true rfl) ?_
  intro p e s m below meth c hx hb hr hlocks hml hown hnm hts hpre ls hl
  have hl : lv_has ls 7 [(0, .int k), (1, .int w), (2, .int wo)] := hl
  obtain ⟨hP, hK⟩ := hpre
  have hS : va_S oo_N s.heap s.heap [] := va_S.rf
  refine lv_lconst (v := (0 : Int64)) hx hb dX0_setBlock_0 (by decide) ?_
  refine lv_lstore_n (lv' := [(3, .long (0 : Int64)), (0, .int k), (1, .int w), (2, .int wo)]) hx hb dX0_setBlock_1 rfl hl (by decide) rfl (fun ls hl => ?_)
  refine lv_iconst (v := nI 0) hx hb dX0_setBlock_2 (by decide) ?_
  refine lv_istore (lv' := [(5, .int (nI 0)), (3, .long (0 : Int64)), (0, .int k), (1, .int w), (2, .int wo)]) hx hb dX0_setBlock_3 hl (by decide) rfl (fun ls hl => ?_)
  have hl : lv_has ls 7 [(0, .int k), (1, .int w), (2, .int wo), (3, .long (0 : Int64)), (5, .int (nI 0))] := lv_sub hl [2, 3, 4, 1, 0] rfl
  have hl := Eq.mp (congrArg (fun z9 => lv_has ls 7 [(0, .int k), (1, .int w), (2, .int wo), (3, .long z9), (5, .int (nI 0))]) (show (0 : Int64) = kl_setB k w wo 0 from (by first | rfl | (simp only [kl_setB]; done)))) hl
  refine oo_loop (N := 64) (fun n H locs ls => va_P D vwCl ([]) H ∧ va_S (oo_N) s.heap H locs ∧ lv_has ls 7 [(0, .int k), (1, .int w), (2, .int wo), (3, .long (kl_setB k w wo n)), (5, .int (nI n))]) ?_ ?_ 0 (Nat.zero_le _) ⟨hP, hS, hl⟩
  · intro H locs ls hI
    obtain ⟨hP, hS, hl⟩ := hI
    refine lv_iload hx hb dX0_setBlock_5 (lv_at hl 4 rfl) ?_
    refine lv_bipush (v := nI 64) hx hb dX0_setBlock_7 (by decide) ?_
    refine lv_icmp_ge (tgt := 49) hx hb dX0_setBlock_9 (by decide) (fun c_9 => ?_) (fun c_9 => ?_)
    · refine lv_lload_n hx hb dX0_setBlock_49 rfl (lv_at hl 3 rfl) ?_
      exact ro_retl hx hb hr hlocks hS (by unfold kvX0_setBlock; rfl) dX0_setBlock_50
    · exact absurd (nI_le (Nat.le_refl _) (by omega)) c_9
  · intro n hltn ihn H locs ls hI
    obtain ⟨hP, hS, hl⟩ := hI
    refine lv_iload hx hb dX0_setBlock_5 (lv_at hl 4 rfl) ?_
    refine lv_bipush (v := nI 64) hx hb dX0_setBlock_7 (by decide) ?_
    refine lv_icmp_ge (tgt := 49) hx hb dX0_setBlock_9 (by decide) (fun c_9 => ?_) (fun c_9 => ?_)
    · exact absurd c_9 (nI_ge hltn (by omega))
    · refine lv_iload_n hx hb dX0_setBlock_12 rfl (lv_at hl 0 rfl) ?_
      refine lv_bipush (v := nI 64) hx hb dX0_setBlock_13 (by decide) ?_
      refine lv_imul hx hb dX0_setBlock_15 ?_
      refine lv_iload hx hb dX0_setBlock_16 (lv_at hl 4 rfl) ?_
      refine lv_iadd hx hb dX0_setBlock_18 ?_
      refine lv_istore (lv' := [(6, .int ((k * (nI 64)) + (nI n))), (0, .int k), (1, .int w), (2, .int wo), (3, .long (kl_setB k w wo n)), (5, .int (nI n))]) hx hb dX0_setBlock_19 hl (by decide) rfl (fun ls hl => ?_)
      refine lv_iload hx hb dX0_setBlock_21 (lv_at hl 0 rfl) ?_
      refine lv_iload_n hx hb dX0_setBlock_23 rfl (lv_at hl 2 rfl) ?_
      refine lv_iand hx hb dX0_setBlock_24 ?_
      refine lv_iload_n hx hb dX0_setBlock_25 rfl (lv_at hl 2 rfl) ?_
      refine lv_icmp_ne (tgt := 43) hx hb dX0_setBlock_26 (by decide) (fun c_26 => ?_) (fun c_26 => ?_)
      · refine lv_iinc (v := nI (n + 1)) (lv' := [(5, .int (nI (n + 1))), (6, .int ((k * (nI 64)) + (nI n))), (0, .int k), (1, .int w), (2, .int wo), (3, .long (kl_setB k w wo n))]) hx hb dX0_setBlock_43 hl (k := 5) rfl (oo_inc n 1) (by decide) rfl (fun ls hl => ?_)
        refine lv_goto (tgt := 5) hx hb dX0_setBlock_46 (by decide) ?_
        have hl : lv_has ls 7 [(0, .int k), (1, .int w), (2, .int wo), (3, .long (kl_setB k w wo n)), (5, .int (nI (n + 1)))] := lv_sub hl [2, 3, 4, 5, 0] rfl
        have hl := Eq.mp (congrArg (fun z9 => lv_has ls 7 [(0, .int k), (1, .int w), (2, .int wo), (3, .long z9), (5, .int (nI (n + 1)))]) (show kl_setB k w wo n = kl_setB k w wo (n + 1) from (by first | rfl | (simp only [kl_setB]; done) | (simp only [kl_setB]; rw [if_neg c_26])))) hl
        exact ihn _ _ _ ⟨hP, hS, hl⟩
      · refine lv_iload hx hb dX0_setBlock_29 (lv_at hl 0 rfl) ?_
        refine lv_iload_n hx hb dX0_setBlock_31 rfl (lv_at hl 3 rfl) ?_
        refine lv_iand hx hb dX0_setBlock_32 ?_
        refine lv_if_ne (tgt := 43) hx hb dX0_setBlock_33 (by decide) (fun c_33 => ?_) (fun c_33 => ?_)
        · refine lv_iinc (v := nI (n + 1)) (lv' := [(5, .int (nI (n + 1))), (6, .int ((k * (nI 64)) + (nI n))), (0, .int k), (1, .int w), (2, .int wo), (3, .long (kl_setB k w wo n))]) hx hb dX0_setBlock_43 hl (k := 5) rfl (oo_inc n 1) (by decide) rfl (fun ls hl => ?_)
          refine lv_goto (tgt := 5) hx hb dX0_setBlock_46 (by decide) ?_
          have hl : lv_has ls 7 [(0, .int k), (1, .int w), (2, .int wo), (3, .long (kl_setB k w wo n)), (5, .int (nI (n + 1)))] := lv_sub hl [2, 3, 4, 5, 0] rfl
          have hl := Eq.mp (congrArg (fun z9 => lv_has ls 7 [(0, .int k), (1, .int w), (2, .int wo), (3, .long z9), (5, .int (nI (n + 1)))]) (show kl_setB k w wo n = kl_setB k w wo (n + 1) from (by first | rfl | (simp only [kl_setB]; done) | (simp only [kl_setB]; rw [if_pos c_26, if_neg c_33])))) hl
          exact ihn _ _ _ ⟨hP, hS, hl⟩
        · refine lv_lload_n hx hb dX0_setBlock_36 rfl (lv_at hl 4 rfl) ?_
          refine lv_lconst (v := (1 : Int64)) hx hb dX0_setBlock_37 (by decide) ?_
          refine lv_iload hx hb dX0_setBlock_38 (lv_at hl 5 rfl) ?_
          refine lv_lshl hx hb dX0_setBlock_40 rfl ?_
          refine lv_lor hx hb dX0_setBlock_41 ?_
          refine lv_lstore_n (lv' := [(3, .long ((kl_setB k w wo n) ||| ((1 : Int64) <<< ((nI n).toInt64 &&& 63)))), (6, .int ((k * (nI 64)) + (nI n))), (0, .int k), (1, .int w), (2, .int wo), (5, .int (nI n))]) hx hb dX0_setBlock_42 rfl hl (by decide) rfl (fun ls hl => ?_)
          refine lv_iinc (v := nI (n + 1)) (lv' := [(5, .int (nI (n + 1))), (3, .long ((kl_setB k w wo n) ||| ((1 : Int64) <<< ((nI n).toInt64 &&& 63)))), (6, .int ((k * (nI 64)) + (nI n))), (0, .int k), (1, .int w), (2, .int wo)]) hx hb dX0_setBlock_43 hl (k := 5) rfl (oo_inc n 1) (by decide) rfl (fun ls hl => ?_)
          refine lv_goto (tgt := 5) hx hb dX0_setBlock_46 (by decide) ?_
          have hl : lv_has ls 7 [(0, .int k), (1, .int w), (2, .int wo), (3, .long ((kl_setB k w wo n) ||| ((1 : Int64) <<< ((nI n).toInt64 &&& 63)))), (5, .int (nI (n + 1)))] := lv_sub hl [3, 4, 5, 1, 0] rfl
          have hl := Eq.mp (congrArg (fun z9 => lv_has ls 7 [(0, .int k), (1, .int w), (2, .int wo), (3, .long z9), (5, .int (nI (n + 1)))]) (show (kl_setB k w wo n) ||| ((1 : Int64) <<< ((nI n).toInt64 &&& 63)) = kl_setB k w wo (n + 1) from (by first | rfl | (simp only [kl_setB]; done) | (simp only [kl_setB]; rw [if_pos c_26, if_pos c_33])))) hl
          exact ihn _ _ _ ⟨hP, hS, hl⟩
def kb_1 (x : Int32) : Int32 := x - ((x.toUInt32 >>> ((1 : Int32).toUInt32 &&& Int32.toUInt32 31)).toInt32 &&& (1431655765 : Int32))
def kb_2 (x : Int32) : Int32 := (x &&& (858993459 : Int32)) + ((x.toUInt32 >>> ((2 : Int32).toUInt32 &&& Int32.toUInt32 31)).toInt32 &&& (858993459 : Int32))
def kb_3 (x : Int32) : Int32 := (x + (x.toUInt32 >>> ((4 : Int32).toUInt32 &&& Int32.toUInt32 31)).toInt32) &&& (252645135 : Int32)
def kb_4 (x : Int32) : Int32 := x + (x.toUInt32 >>> ((nI 8).toUInt32 &&& Int32.toUInt32 31)).toInt32
def kb_5 (x : Int32) : Int32 := x + (x.toUInt32 >>> ((nI 16).toUInt32 &&& Int32.toUInt32 31)).toInt32
def kB_1 (x : Int64) : Int64 := x - ((x.toUInt64 >>> ((1 : Int32).toInt64.toUInt64 &&& Int64.toUInt64 63)).toInt64 &&& (6148914691236517205 : Int64))
def kB_2 (x : Int64) : Int64 := (x &&& (3689348814741910323 : Int64)) + ((x.toUInt64 >>> ((2 : Int32).toInt64.toUInt64 &&& Int64.toUInt64 63)).toInt64 &&& (3689348814741910323 : Int64))
def kB_3 (x : Int64) : Int64 := (x + (x.toUInt64 >>> ((4 : Int32).toInt64.toUInt64 &&& Int64.toUInt64 63)).toInt64) &&& (1085102592571150095 : Int64)
def kB_4 (x : Int64) : Int64 := x + (x.toUInt64 >>> ((nI 8).toInt64.toUInt64 &&& Int64.toUInt64 63)).toInt64
def kB_5 (x : Int64) : Int64 := x + (x.toUInt64 >>> ((nI 16).toInt64.toUInt64 &&& Int64.toUInt64 63)).toInt64
def kB_6 (x : Int64) : Int64 := x + (x.toUInt64 >>> ((nI 32).toInt64.toUInt64 &&& Int64.toUInt64 63)).toInt64
theorem ok_J6_bitCount_0f7a4 : yJ6_bitCount_0f7a4.cls ≠ "java/lang/invoke/MethodHandle" ∧ yJ6_bitCount_0f7a4.cls ≠ "java/lang/invoke/VarHandle" ∧ (parseMethodDescriptor yJ6_bitCount_0f7a4.desc).map (fun d => d.parameters.length) = some 1 := by decide +kernel
def kvJ6_bitCount_0f7a4 (x : Int32) : Int32 := (kb_5 (kb_4 (kb_3 (kb_2 (kb_1 x))))) &&& (nI 63)
set_option maxHeartbeats 4000000 in
set_option maxRecDepth 100000 in
theorem kJ6_bitCount_0f7a4 (l : Launch) (D : va_G) (x : Int32) : RoI l yJ6_bitCount_0f7a4 wsJ6_bitCount_0f7a4 ({ frames := 0, cells := 0, slots := 0, locals := 0 } : Room) [.int x] D ([]) [] (kvJ6_bitCount_0f7a4 x) := by
  refine oo_head (C := RJ6) (cc := cJ6_bitCount_0f7a4) (maxL := 1) (ret := (some .int)) (by decide) rfl rfl (Nat.le_of_ble_eq_true rfl) ?_
  intro p e s m below meth c hx hb hr hlocks hml hown hnm hts hpre ls hl
  have hl : lv_has ls 1 [(0, .int x)] := hl
  obtain ⟨hP, hK⟩ := hpre
  have hS : va_S oo_N s.heap s.heap [] := va_S.rf
  refine lv_iload_n hx hb dJ6_bitCount_0f7a4_0 rfl (lv_at hl 0 rfl) ?_
  refine lv_iload_n hx hb dJ6_bitCount_0f7a4_1 rfl (lv_at hl 0 rfl) ?_
  refine lv_iconst (v := (1 : Int32)) hx hb dJ6_bitCount_0f7a4_2 (by decide) ?_
  refine lv_iushr hx hb dJ6_bitCount_0f7a4_3 rfl ?_
  refine lv_ldcw hx hb hown (hts (.constant RJ6 265 (1431655765)) (by decide +kernel)) dJ6_bitCount_0f7a4_4 ?_
  refine lv_iand hx hb dJ6_bitCount_0f7a4_7 ?_
  refine lv_isub hx hb dJ6_bitCount_0f7a4_8 ?_
  refine oo_topI (y := kb_1 x) rfl ?_
  refine lv_istore_n (lv' := [(0, .int (kb_1 x))]) hx hb dJ6_bitCount_0f7a4_9 rfl hl (by decide) rfl (fun ls hl => ?_)
  refine lv_iload_n hx hb dJ6_bitCount_0f7a4_10 rfl (lv_at hl 0 rfl) ?_
  refine lv_ldcw hx hb hown (hts (.constant RJ6 266 (858993459)) (by decide +kernel)) dJ6_bitCount_0f7a4_11 ?_
  refine lv_iand hx hb dJ6_bitCount_0f7a4_14 ?_
  refine lv_iload_n hx hb dJ6_bitCount_0f7a4_15 rfl (lv_at hl 0 rfl) ?_
  refine lv_iconst (v := (2 : Int32)) hx hb dJ6_bitCount_0f7a4_16 (by decide) ?_
  refine lv_iushr hx hb dJ6_bitCount_0f7a4_17 rfl ?_
  refine lv_ldcw hx hb hown (hts (.constant RJ6 266 (858993459)) (by decide +kernel)) dJ6_bitCount_0f7a4_18 ?_
  refine lv_iand hx hb dJ6_bitCount_0f7a4_21 ?_
  refine lv_iadd hx hb dJ6_bitCount_0f7a4_22 ?_
  refine oo_topI (y := kb_2 (kb_1 x)) rfl ?_
  refine lv_istore_n (lv' := [(0, .int (kb_2 (kb_1 x)))]) hx hb dJ6_bitCount_0f7a4_23 rfl hl (by decide) rfl (fun ls hl => ?_)
  refine lv_iload_n hx hb dJ6_bitCount_0f7a4_24 rfl (lv_at hl 0 rfl) ?_
  refine lv_iload_n hx hb dJ6_bitCount_0f7a4_25 rfl (lv_at hl 0 rfl) ?_
  refine lv_iconst (v := (4 : Int32)) hx hb dJ6_bitCount_0f7a4_26 (by decide) ?_
  refine lv_iushr hx hb dJ6_bitCount_0f7a4_27 rfl ?_
  refine lv_iadd hx hb dJ6_bitCount_0f7a4_28 ?_
  refine lv_ldcw hx hb hown (hts (.constant RJ6 267 (252645135)) (by decide +kernel)) dJ6_bitCount_0f7a4_29 ?_
  refine lv_iand hx hb dJ6_bitCount_0f7a4_32 ?_
  refine oo_topI (y := kb_3 (kb_2 (kb_1 x))) rfl ?_
  refine lv_istore_n (lv' := [(0, .int (kb_3 (kb_2 (kb_1 x))))]) hx hb dJ6_bitCount_0f7a4_33 rfl hl (by decide) rfl (fun ls hl => ?_)
  refine lv_iload_n hx hb dJ6_bitCount_0f7a4_34 rfl (lv_at hl 0 rfl) ?_
  refine lv_iload_n hx hb dJ6_bitCount_0f7a4_35 rfl (lv_at hl 0 rfl) ?_
  refine lv_bipush (v := nI 8) hx hb dJ6_bitCount_0f7a4_36 (by decide) ?_
  refine lv_iushr hx hb dJ6_bitCount_0f7a4_38 rfl ?_
  refine lv_iadd hx hb dJ6_bitCount_0f7a4_39 ?_
  refine oo_topI (y := kb_4 (kb_3 (kb_2 (kb_1 x)))) rfl ?_
  refine lv_istore_n (lv' := [(0, .int (kb_4 (kb_3 (kb_2 (kb_1 x)))))]) hx hb dJ6_bitCount_0f7a4_40 rfl hl (by decide) rfl (fun ls hl => ?_)
  refine lv_iload_n hx hb dJ6_bitCount_0f7a4_41 rfl (lv_at hl 0 rfl) ?_
  refine lv_iload_n hx hb dJ6_bitCount_0f7a4_42 rfl (lv_at hl 0 rfl) ?_
  refine lv_bipush (v := nI 16) hx hb dJ6_bitCount_0f7a4_43 (by decide) ?_
  refine lv_iushr hx hb dJ6_bitCount_0f7a4_45 rfl ?_
  refine lv_iadd hx hb dJ6_bitCount_0f7a4_46 ?_
  refine oo_topI (y := kb_5 (kb_4 (kb_3 (kb_2 (kb_1 x))))) rfl ?_
  refine lv_istore_n (lv' := [(0, .int (kb_5 (kb_4 (kb_3 (kb_2 (kb_1 x))))))]) hx hb dJ6_bitCount_0f7a4_47 rfl hl (by decide) rfl (fun ls hl => ?_)
  refine lv_iload_n hx hb dJ6_bitCount_0f7a4_48 rfl (lv_at hl 0 rfl) ?_
  refine lv_bipush (v := nI 63) hx hb dJ6_bitCount_0f7a4_49 (by decide) ?_
  refine lv_iand hx hb dJ6_bitCount_0f7a4_51 ?_
  exact ro_reti hx hb hr hlocks hS (by unfold kvJ6_bitCount_0f7a4; rfl) dJ6_bitCount_0f7a4_52
theorem ok_J13_bitCount_95d88 : yJ13_bitCount_95d88.cls ≠ "java/lang/invoke/MethodHandle" ∧ yJ13_bitCount_95d88.cls ≠ "java/lang/invoke/VarHandle" ∧ (parseMethodDescriptor yJ13_bitCount_95d88.desc).map (fun d => d.parameters.length) = some 1 := by decide +kernel
def kvJ13_bitCount_95d88 (x : Int64) : Int32 := ((kB_6 (kB_5 (kB_4 (kB_3 (kB_2 (kB_1 x)))))).toInt32) &&& (nI 127)
set_option maxHeartbeats 4000000 in
set_option maxRecDepth 100000 in
theorem kJ13_bitCount_95d88 (l : Launch) (D : va_G) (x : Int64) : RoI l yJ13_bitCount_95d88 wsJ13_bitCount_95d88 ({ frames := 0, cells := 0, slots := 0, locals := 0 } : Room) [.long x] D ([]) [] (kvJ13_bitCount_95d88 x) := by
  refine oo_head (C := RJ13) (cc := cJ13_bitCount_95d88) (maxL := 2) (ret := (some .int)) (by decide) rfl rfl (Nat.le_of_ble_eq_true rfl) ?_
  intro p e s m below meth c hx hb hr hlocks hml hown hnm hts hpre ls hl
  have hl : lv_has ls 2 [(0, .long x)] := hl
  obtain ⟨hP, hK⟩ := hpre
  have hS : va_S oo_N s.heap s.heap [] := va_S.rf
  refine lv_lload_n hx hb dJ13_bitCount_95d88_0 rfl (lv_at hl 0 rfl) ?_
  refine lv_lload_n hx hb dJ13_bitCount_95d88_1 rfl (lv_at hl 0 rfl) ?_
  refine lv_iconst (v := (1 : Int32)) hx hb dJ13_bitCount_95d88_2 (by decide) ?_
  refine lv_lushr hx hb dJ13_bitCount_95d88_3 rfl ?_
  refine lv_ldc2 hx hb hown (hts (.constantLong RJ13 314 (6148914691236517205)) (by decide +kernel)) dJ13_bitCount_95d88_4 ?_
  refine lv_land hx hb dJ13_bitCount_95d88_7 ?_
  refine lv_lsub hx hb dJ13_bitCount_95d88_8 ?_
  refine oo_topL (y := kB_1 x) rfl ?_
  refine lv_lstore_n (lv' := [(0, .long (kB_1 x))]) hx hb dJ13_bitCount_95d88_9 rfl hl (by decide) rfl (fun ls hl => ?_)
  refine lv_lload_n hx hb dJ13_bitCount_95d88_10 rfl (lv_at hl 0 rfl) ?_
  refine lv_ldc2 hx hb hown (hts (.constantLong RJ13 316 (3689348814741910323)) (by decide +kernel)) dJ13_bitCount_95d88_11 ?_
  refine lv_land hx hb dJ13_bitCount_95d88_14 ?_
  refine lv_lload_n hx hb dJ13_bitCount_95d88_15 rfl (lv_at hl 0 rfl) ?_
  refine lv_iconst (v := (2 : Int32)) hx hb dJ13_bitCount_95d88_16 (by decide) ?_
  refine lv_lushr hx hb dJ13_bitCount_95d88_17 rfl ?_
  refine lv_ldc2 hx hb hown (hts (.constantLong RJ13 316 (3689348814741910323)) (by decide +kernel)) dJ13_bitCount_95d88_18 ?_
  refine lv_land hx hb dJ13_bitCount_95d88_21 ?_
  refine lv_ladd hx hb dJ13_bitCount_95d88_22 ?_
  refine oo_topL (y := kB_2 (kB_1 x)) rfl ?_
  refine lv_lstore_n (lv' := [(0, .long (kB_2 (kB_1 x)))]) hx hb dJ13_bitCount_95d88_23 rfl hl (by decide) rfl (fun ls hl => ?_)
  refine lv_lload_n hx hb dJ13_bitCount_95d88_24 rfl (lv_at hl 0 rfl) ?_
  refine lv_lload_n hx hb dJ13_bitCount_95d88_25 rfl (lv_at hl 0 rfl) ?_
  refine lv_iconst (v := (4 : Int32)) hx hb dJ13_bitCount_95d88_26 (by decide) ?_
  refine lv_lushr hx hb dJ13_bitCount_95d88_27 rfl ?_
  refine lv_ladd hx hb dJ13_bitCount_95d88_28 ?_
  refine lv_ldc2 hx hb hown (hts (.constantLong RJ13 318 (1085102592571150095)) (by decide +kernel)) dJ13_bitCount_95d88_29 ?_
  refine lv_land hx hb dJ13_bitCount_95d88_32 ?_
  refine oo_topL (y := kB_3 (kB_2 (kB_1 x))) rfl ?_
  refine lv_lstore_n (lv' := [(0, .long (kB_3 (kB_2 (kB_1 x))))]) hx hb dJ13_bitCount_95d88_33 rfl hl (by decide) rfl (fun ls hl => ?_)
  refine lv_lload_n hx hb dJ13_bitCount_95d88_34 rfl (lv_at hl 0 rfl) ?_
  refine lv_lload_n hx hb dJ13_bitCount_95d88_35 rfl (lv_at hl 0 rfl) ?_
  refine lv_bipush (v := nI 8) hx hb dJ13_bitCount_95d88_36 (by decide) ?_
  refine lv_lushr hx hb dJ13_bitCount_95d88_38 rfl ?_
  refine lv_ladd hx hb dJ13_bitCount_95d88_39 ?_
  refine oo_topL (y := kB_4 (kB_3 (kB_2 (kB_1 x)))) rfl ?_
  refine lv_lstore_n (lv' := [(0, .long (kB_4 (kB_3 (kB_2 (kB_1 x)))))]) hx hb dJ13_bitCount_95d88_40 rfl hl (by decide) rfl (fun ls hl => ?_)
  refine lv_lload_n hx hb dJ13_bitCount_95d88_41 rfl (lv_at hl 0 rfl) ?_
  refine lv_lload_n hx hb dJ13_bitCount_95d88_42 rfl (lv_at hl 0 rfl) ?_
  refine lv_bipush (v := nI 16) hx hb dJ13_bitCount_95d88_43 (by decide) ?_
  refine lv_lushr hx hb dJ13_bitCount_95d88_45 rfl ?_
  refine lv_ladd hx hb dJ13_bitCount_95d88_46 ?_
  refine oo_topL (y := kB_5 (kB_4 (kB_3 (kB_2 (kB_1 x))))) rfl ?_
  refine lv_lstore_n (lv' := [(0, .long (kB_5 (kB_4 (kB_3 (kB_2 (kB_1 x))))))]) hx hb dJ13_bitCount_95d88_47 rfl hl (by decide) rfl (fun ls hl => ?_)
  refine lv_lload_n hx hb dJ13_bitCount_95d88_48 rfl (lv_at hl 0 rfl) ?_
  refine lv_lload_n hx hb dJ13_bitCount_95d88_49 rfl (lv_at hl 0 rfl) ?_
  refine lv_bipush (v := nI 32) hx hb dJ13_bitCount_95d88_50 (by decide) ?_
  refine lv_lushr hx hb dJ13_bitCount_95d88_52 rfl ?_
  refine lv_ladd hx hb dJ13_bitCount_95d88_53 ?_
  refine oo_topL (y := kB_6 (kB_5 (kB_4 (kB_3 (kB_2 (kB_1 x)))))) rfl ?_
  refine lv_lstore_n (lv' := [(0, .long (kB_6 (kB_5 (kB_4 (kB_3 (kB_2 (kB_1 x)))))))]) hx hb dJ13_bitCount_95d88_54 rfl hl (by decide) rfl (fun ls hl => ?_)
  refine lv_lload_n hx hb dJ13_bitCount_95d88_55 rfl (lv_at hl 0 rfl) ?_
  refine lv_l2i hx hb dJ13_bitCount_95d88_56 rfl ?_
  refine lv_bipush (v := nI 127) hx hb dJ13_bitCount_95d88_57 (by decide) ?_
  refine lv_iand hx hb dJ13_bitCount_95d88_59 ?_
  exact ro_reti hx hb hr hlocks hS (by unfold kvJ13_bitCount_95d88; rfl) dJ13_bitCount_95d88_60
def kl_someB (k fs lo hi : Int32) : Nat → Int64
  | 0 => 0
  | n + 1 => if kvJ6_bitCount_0f7a4 (((k * nI 64) + nI n) &&& fs) < lo then kl_someB k fs lo hi n else (if hi < kvJ6_bitCount_0f7a4 (((k * nI 64) + nI n) &&& fs) then kl_someB k fs lo hi n else kl_someB k fs lo hi n ||| ((1 : Int64) <<< ((nI n).toInt64 &&& 63)))
theorem ok_X0_someBlock : yX0_someBlock.cls ≠ "java/lang/invoke/MethodHandle" ∧ yX0_someBlock.cls ≠ "java/lang/invoke/VarHandle" ∧ (parseMethodDescriptor yX0_someBlock.desc).map (fun d => d.parameters.length) = some 4 := by decide +kernel
def kvX0_someBlock (k : Int32) (fs : Int32) (lo : Int32) (hi : Int32) : Int64 := kl_someB k fs lo hi 64
set_option maxHeartbeats 4000000 in
set_option maxRecDepth 100000 in
theorem kX0_someBlock (l : Launch) (D : va_G) (k : Int32) (fs : Int32) (lo : Int32) (hi : Int32) : RoL l yX0_someBlock wsX0_someBlock ({ frames := 1, cells := 0, slots := 0, locals := 20 } : Room) [.int k, .int fs, .int lo, .int hi] D ([]) [] (kvX0_someBlock k fs lo hi) := by
  refine oo_head (C := RX0) (cc := cX0_someBlock) (maxL := 8) (ret := (some .long)) (by decide) rfl rfl (Nat.le_of_ble_eq_true rfl) ?_
  intro p e s m below meth c hx hb hr hlocks hml hown hnm hts hpre ls hl
  have hl : lv_has ls 8 [(0, .int k), (1, .int fs), (2, .int lo), (3, .int hi)] := hl
  obtain ⟨hP, hK⟩ := hpre
  have hS : va_S oo_N s.heap s.heap [] := va_S.rf
  refine lv_lconst (v := (0 : Int64)) hx hb dX0_someBlock_0 (by decide) ?_
  refine lv_lstore (lv' := [(4, .long (0 : Int64)), (0, .int k), (1, .int fs), (2, .int lo), (3, .int hi)]) hx hb dX0_someBlock_1 hl (by decide) rfl (fun ls hl => ?_)
  refine lv_iconst (v := nI 0) hx hb dX0_someBlock_3 (by decide) ?_
  refine lv_istore (lv' := [(6, .int (nI 0)), (4, .long (0 : Int64)), (0, .int k), (1, .int fs), (2, .int lo), (3, .int hi)]) hx hb dX0_someBlock_4 hl (by decide) rfl (fun ls hl => ?_)
  have hl : lv_has ls 8 [(0, .int k), (1, .int fs), (2, .int lo), (3, .int hi), (4, .long (0 : Int64)), (6, .int (nI 0))] := lv_sub hl [2, 3, 4, 5, 1, 0] rfl
  have hl := Eq.mp (congrArg (fun z9 => lv_has ls 8 [(0, .int k), (1, .int fs), (2, .int lo), (3, .int hi), (4, .long z9), (6, .int (nI 0))]) (show (0 : Int64) = kl_someB k fs lo hi 0 from (by first | rfl | (simp only [kl_someB]; done)))) hl
  refine oo_loop (N := 64) (fun n H locs ls => va_P D vwCl ([]) H ∧ va_S (oo_N) s.heap H locs ∧ lv_has ls 8 [(0, .int k), (1, .int fs), (2, .int lo), (3, .int hi), (4, .long (kl_someB k fs lo hi n)), (6, .int (nI n))]) ?_ ?_ 0 (Nat.zero_le _) ⟨hP, hS, hl⟩
  · intro H locs ls hI
    obtain ⟨hP, hS, hl⟩ := hI
    refine lv_iload hx hb dX0_someBlock_6 (lv_at hl 5 rfl) ?_
    refine lv_bipush (v := nI 64) hx hb dX0_someBlock_8 (by decide) ?_
    refine lv_icmp_ge (tgt := 54) hx hb dX0_someBlock_10 (by decide) (fun c_10 => ?_) (fun c_10 => ?_)
    · refine lv_lload hx hb dX0_someBlock_54 (lv_at hl 4 rfl) ?_
      exact ro_retl hx hb hr hlocks hS (by unfold kvX0_someBlock; rfl) dX0_someBlock_56
    · exact absurd (nI_le (Nat.le_refl _) (by omega)) c_10
  · intro n hltn ihn H locs ls hI
    obtain ⟨hP, hS, hl⟩ := hI
    refine lv_iload hx hb dX0_someBlock_6 (lv_at hl 5 rfl) ?_
    refine lv_bipush (v := nI 64) hx hb dX0_someBlock_8 (by decide) ?_
    refine lv_icmp_ge (tgt := 54) hx hb dX0_someBlock_10 (by decide) (fun c_10 => ?_) (fun c_10 => ?_)
    · exact absurd c_10 (nI_ge hltn (by omega))
    · refine lv_iload_n hx hb dX0_someBlock_13 rfl (lv_at hl 0 rfl) ?_
      refine lv_bipush (v := nI 64) hx hb dX0_someBlock_14 (by decide) ?_
      refine lv_imul hx hb dX0_someBlock_16 ?_
      refine lv_iload hx hb dX0_someBlock_17 (lv_at hl 5 rfl) ?_
      refine lv_iadd hx hb dX0_someBlock_19 ?_
      refine lv_iload_n hx hb dX0_someBlock_20 rfl (lv_at hl 1 rfl) ?_
      refine lv_iand hx hb dX0_someBlock_21 ?_
      refine ro_calli (va_runS (As := [.int (((k * (nI 64)) + (nI n)) &&& fs)]) (rest := []) ⟨hx, hb, hml, hown, hts⟩ (kJ6_bitCount_0f7a4 l D (((k * (nI 64)) + (nI n)) &&& fs)) (va_cwS 1 hts gX0_someBlock_J6_bitCount_0f7a4 rfl rfl rfl ok_J6_bitCount_0f7a4 ⟨Nat.le_of_ble_eq_true rfl, Nat.le_of_ble_eq_true rfl⟩) ⟨oo_blind, oo_ps hP hK [] rfl [] rfl⟩ rfl rfl hl.1 rfl (lv_room (Nat.le_of_ble_eq_true rfl)) dX0_someBlock_22 ⟨Nat.le_of_ble_eq_true rfl, Nat.le_of_ble_eq_true rfl⟩) hP hS (fun H locs hP hS => ?_)
      refine lv_istore (lv' := [(7, .int (kvJ6_bitCount_0f7a4 (((k * (nI 64)) + (nI n)) &&& fs))), (0, .int k), (1, .int fs), (2, .int lo), (3, .int hi), (4, .long (kl_someB k fs lo hi n)), (6, .int (nI n))]) hx hb dX0_someBlock_25 hl (by decide) rfl (fun ls hl => ?_)
      refine lv_iload hx hb dX0_someBlock_27 (lv_at hl 0 rfl) ?_
      refine lv_iload_n hx hb dX0_someBlock_29 rfl (lv_at hl 3 rfl) ?_
      refine lv_icmp_lt (tgt := 48) hx hb dX0_someBlock_30 (by decide) (fun c_30 => ?_) (fun c_30 => ?_)
      · refine lv_iinc (v := nI (n + 1)) (lv' := [(6, .int (nI (n + 1))), (7, .int (kvJ6_bitCount_0f7a4 (((k * (nI 64)) + (nI n)) &&& fs))), (0, .int k), (1, .int fs), (2, .int lo), (3, .int hi), (4, .long (kl_someB k fs lo hi n))]) hx hb dX0_someBlock_48 hl (k := 6) rfl (oo_inc n 1) (by decide) rfl (fun ls hl => ?_)
        refine lv_goto (tgt := 6) hx hb dX0_someBlock_51 (by decide) ?_
        have hl : lv_has ls 8 [(0, .int k), (1, .int fs), (2, .int lo), (3, .int hi), (4, .long (kl_someB k fs lo hi n)), (6, .int (nI (n + 1)))] := lv_sub hl [2, 3, 4, 5, 6, 0] rfl
        have hl := Eq.mp (congrArg (fun z9 => lv_has ls 8 [(0, .int k), (1, .int fs), (2, .int lo), (3, .int hi), (4, .long z9), (6, .int (nI (n + 1)))]) (show kl_someB k fs lo hi n = kl_someB k fs lo hi (n + 1) from (by first | rfl | (simp only [kl_someB]; done) | (simp only [kl_someB]; rw [if_pos c_30])))) hl
        exact ihn _ _ _ ⟨hP, hS, hl⟩
      · refine lv_iload hx hb dX0_someBlock_33 (lv_at hl 0 rfl) ?_
        refine lv_iload_n hx hb dX0_someBlock_35 rfl (lv_at hl 4 rfl) ?_
        refine lv_icmp_gt (tgt := 48) hx hb dX0_someBlock_36 (by decide) (fun c_36 => ?_) (fun c_36 => ?_)
        · refine lv_iinc (v := nI (n + 1)) (lv' := [(6, .int (nI (n + 1))), (7, .int (kvJ6_bitCount_0f7a4 (((k * (nI 64)) + (nI n)) &&& fs))), (0, .int k), (1, .int fs), (2, .int lo), (3, .int hi), (4, .long (kl_someB k fs lo hi n))]) hx hb dX0_someBlock_48 hl (k := 6) rfl (oo_inc n 1) (by decide) rfl (fun ls hl => ?_)
          refine lv_goto (tgt := 6) hx hb dX0_someBlock_51 (by decide) ?_
          have hl : lv_has ls 8 [(0, .int k), (1, .int fs), (2, .int lo), (3, .int hi), (4, .long (kl_someB k fs lo hi n)), (6, .int (nI (n + 1)))] := lv_sub hl [2, 3, 4, 5, 6, 0] rfl
          have hl := Eq.mp (congrArg (fun z9 => lv_has ls 8 [(0, .int k), (1, .int fs), (2, .int lo), (3, .int hi), (4, .long z9), (6, .int (nI (n + 1)))]) (show kl_someB k fs lo hi n = kl_someB k fs lo hi (n + 1) from (by first | rfl | (simp only [kl_someB]; done) | (simp only [kl_someB]; rw [if_neg c_30, if_pos c_36])))) hl
          exact ihn _ _ _ ⟨hP, hS, hl⟩
        · refine lv_lload hx hb dX0_someBlock_39 (lv_at hl 5 rfl) ?_
          refine lv_lconst (v := (1 : Int64)) hx hb dX0_someBlock_41 (by decide) ?_
          refine lv_iload hx hb dX0_someBlock_42 (lv_at hl 6 rfl) ?_
          refine lv_lshl hx hb dX0_someBlock_44 rfl ?_
          refine lv_lor hx hb dX0_someBlock_45 ?_
          refine lv_lstore (lv' := [(4, .long ((kl_someB k fs lo hi n) ||| ((1 : Int64) <<< ((nI n).toInt64 &&& 63)))), (7, .int (kvJ6_bitCount_0f7a4 (((k * (nI 64)) + (nI n)) &&& fs))), (0, .int k), (1, .int fs), (2, .int lo), (3, .int hi), (6, .int (nI n))]) hx hb dX0_someBlock_46 hl (by decide) rfl (fun ls hl => ?_)
          refine lv_iinc (v := nI (n + 1)) (lv' := [(6, .int (nI (n + 1))), (4, .long ((kl_someB k fs lo hi n) ||| ((1 : Int64) <<< ((nI n).toInt64 &&& 63)))), (7, .int (kvJ6_bitCount_0f7a4 (((k * (nI 64)) + (nI n)) &&& fs))), (0, .int k), (1, .int fs), (2, .int lo), (3, .int hi)]) hx hb dX0_someBlock_48 hl (k := 6) rfl (oo_inc n 1) (by decide) rfl (fun ls hl => ?_)
          refine lv_goto (tgt := 6) hx hb dX0_someBlock_51 (by decide) ?_
          have hl : lv_has ls 8 [(0, .int k), (1, .int fs), (2, .int lo), (3, .int hi), (4, .long ((kl_someB k fs lo hi n) ||| ((1 : Int64) <<< ((nI n).toInt64 &&& 63)))), (6, .int (nI (n + 1)))] := lv_sub hl [3, 4, 5, 6, 1, 0] rfl
          have hl := Eq.mp (congrArg (fun z9 => lv_has ls 8 [(0, .int k), (1, .int fs), (2, .int lo), (3, .int hi), (4, .long z9), (6, .int (nI (n + 1)))]) (show (kl_someB k fs lo hi n) ||| ((1 : Int64) <<< ((nI n).toInt64 &&& 63)) = kl_someB k fs lo hi (n + 1) from (by first | rfl | (simp only [kl_someB]; done) | (simp only [kl_someB]; rw [if_neg c_30, if_neg c_36])))) hl
          exact ihn _ _ _ ⟨hP, hS, hl⟩
def kl_low (lw : Nat → Int64) (b : Int64) : Nat → Int64
  | 0 => 0
  | n + 1 => if kvX0_isBitOn b (nI n) = 0 then kl_low lw b n else kl_low lw b n + kvX0_at 64 lw (nI n)
theorem ok_X0_lowerSum : yX0_lowerSum.cls = RX0 ∧ yX0_lowerSum.cls ≠ "java/lang/invoke/MethodHandle" ∧ yX0_lowerSum.cls ≠ "java/lang/invoke/VarHandle" ∧ (parseMethodDescriptor yX0_lowerSum.desc).map (fun d => d.parameters.length) = some 1 := by decide +kernel
def kvX0_lowerSum (lw : Nat → Int64) (b : Int64) : Int64 := kl_low lw b 64
set_option maxHeartbeats 4000000 in
set_option maxRecDepth 100000 in
theorem kX0_lowerSum (l : Launch) (D : va_G) (cJ : ClassId) (h a1 a2 a3 a4 a5 : Nat) (u d lw uw an : Nat → Int64) (fn qn : Nat) (sd : Int64) (b : Int64) : RoL l yX0_lowerSum wsX0_lowerSum ({ frames := 1, cells := 0, slots := 0, locals := 22 } : Room) [.ref h, .long b] D (xW cJ h a1 a2 a3 a4 a5 u d lw uw an (nI fn) (nI qn) sd) [(cJ, .long)] (kvX0_lowerSum lw b) := by
  refine oo_head (C := RX0) (cc := cX0_lowerSum) (maxL := 6) (ret := (some .long)) (by decide) rfl rfl (Nat.le_of_ble_eq_true rfl) ?_
  intro p e s m below meth c hx hb hr hlocks hml hown hnm hts hpre ls hl
  have hl : lv_has ls 6 [(0, .ref h), (1, .long b)] := hl
  obtain ⟨hP, hK⟩ := hpre
  have hS : va_S oo_N s.heap s.heap [] := va_S.rf
  have hin : ∀ w ∈ wsX00, w ∈ wsX0_lowerSum := fun w h => List.mem_cons_of_mem _ (List.mem_append_right _ h)
  refine lv_lconst (v := (0 : Int64)) hx hb dX0_lowerSum_0 (by decide) ?_
  refine lv_lstore_n (lv' := [(3, .long (0 : Int64)), (0, .ref h), (1, .long b)]) hx hb dX0_lowerSum_1 rfl hl (by decide) rfl (fun ls hl => ?_)
  refine lv_iconst (v := nI 0) hx hb dX0_lowerSum_2 (by decide) ?_
  refine lv_istore (lv' := [(5, .int (nI 0)), (3, .long (0 : Int64)), (0, .ref h), (1, .long b)]) hx hb dX0_lowerSum_3 hl (by decide) rfl (fun ls hl => ?_)
  have hl : lv_has ls 6 [(0, .ref h), (1, .long b), (3, .long (0 : Int64)), (5, .int (nI 0))] := lv_sub hl [2, 3, 1, 0] rfl
  have hl := Eq.mp (congrArg (fun z9 => lv_has ls 6 [(0, .ref h), (1, .long b), (3, .long z9), (5, .int (nI 0))]) (show (0 : Int64) = kl_low lw b 0 from (by first | rfl | (simp only [kl_low]; done)))) hl
  refine oo_loop (N := 64) (fun n H locs ls => va_P D vwCl (xW cJ h a1 a2 a3 a4 a5 u d lw uw an (nI fn) (nI qn) sd) H ∧ va_S (oo_N) s.heap H locs ∧ lv_has ls 6 [(0, .ref h), (1, .long b), (3, .long (kl_low lw b n)), (5, .int (nI n))]) ?_ ?_ 0 (Nat.zero_le _) ⟨hP, hS, hl⟩
  · intro H locs ls hI
    obtain ⟨hP, hS, hl⟩ := hI
    refine lv_iload hx hb dX0_lowerSum_5 (lv_at hl 3 rfl) ?_
    refine lv_bipush (v := nI 64) hx hb dX0_lowerSum_7 (by decide) ?_
    refine lv_icmp_ge (tgt := 39) hx hb dX0_lowerSum_9 (by decide) (fun c_9 => ?_) (fun c_9 => ?_)
    · refine lv_lload_n hx hb dX0_lowerSum_39 rfl (lv_at hl 2 rfl) ?_
      exact ro_retl hx hb hr hlocks hS (by unfold kvX0_lowerSum; rfl) dX0_lowerSum_40
    · exact absurd (nI_le (Nat.le_refl _) (by omega)) c_9
  · intro n hltn ihn H locs ls hI
    obtain ⟨hP, hS, hl⟩ := hI
    refine lv_iload hx hb dX0_lowerSum_5 (lv_at hl 3 rfl) ?_
    refine lv_bipush (v := nI 64) hx hb dX0_lowerSum_7 (by decide) ?_
    refine lv_icmp_ge (tgt := 39) hx hb dX0_lowerSum_9 (by decide) (fun c_9 => ?_) (fun c_9 => ?_)
    · exact absurd c_9 (nI_ge hltn (by omega))
    · refine lv_lload_n hx hb dX0_lowerSum_12 rfl (lv_at hl 1 rfl) ?_
      refine lv_iload hx hb dX0_lowerSum_13 (lv_at hl 3 rfl) ?_
      refine ro_calli (va_runS (As := [.long b, .int (nI n)]) (rest := []) ⟨hx, hb, hml, hown, hts⟩ (kX0_isBitOn l D b (nI n)) (va_cwS 2 hts gX0_lowerSum_X0_isBitOn rfl rfl rfl ok_X0_isBitOn ⟨Nat.le_of_ble_eq_true rfl, Nat.le_of_ble_eq_true rfl⟩) ⟨oo_blind, oo_ps hP hK [] rfl [] rfl⟩ rfl rfl hl.1 rfl (lv_room (Nat.le_of_ble_eq_true rfl)) dX0_lowerSum_15 ⟨Nat.le_of_ble_eq_true rfl, Nat.le_of_ble_eq_true rfl⟩) hP hS (fun H locs hP hS => ?_)
      refine lv_if_eq (tgt := 33) hx hb dX0_lowerSum_18 (by decide) (fun c_18 => ?_) (fun c_18 => ?_)
      · refine lv_iinc (v := nI (n + 1)) (lv' := [(5, .int (nI (n + 1))), (0, .ref h), (1, .long b), (3, .long (kl_low lw b n))]) hx hb dX0_lowerSum_33 hl (k := 3) rfl (oo_inc n 1) (by decide) rfl (fun ls hl => ?_)
        refine lv_goto (tgt := 5) hx hb dX0_lowerSum_36 (by decide) ?_
        have hl : lv_has ls 6 [(0, .ref h), (1, .long b), (3, .long (kl_low lw b n)), (5, .int (nI (n + 1)))] := lv_sub hl [1, 2, 3, 0] rfl
        have hl := Eq.mp (congrArg (fun z9 => lv_has ls 6 [(0, .ref h), (1, .long b), (3, .long z9), (5, .int (nI (n + 1)))]) (show kl_low lw b n = kl_low lw b (n + 1) from (by first | rfl | (simp only [kl_low]; done) | (simp only [kl_low]; rw [if_pos c_18])))) hl
        exact ihn _ _ _ ⟨hP, hS, hl⟩
      · refine lv_lload_n hx hb dX0_lowerSum_21 rfl (lv_at hl 2 rfl) ?_
        refine lv_aload_n hx hb dX0_lowerSum_22 rfl (lv_at hl 0 rfl) ?_
        refine va_get (D := D) (ci := 0) (v := .ref a3) (C := RX0) (T := TX0) (N := 8) hx hb hts hin hown hK hP 0 rfl rfl 2 (by decide) (hts (.fieldLink RX0 16 "OddsSampling" "lowerWeights" "[J") (by decide +kernel)) (fun _ h9 => h9) rfl dX0_lowerSum_23 ?_
        refine lv_iload hx hb dX0_lowerSum_26 (lv_at hl 3 rfl) ?_
        refine ro_calll (va_runS (As := [.ref a3, .int (nI n)]) (rest := [.long (kl_low lw b n)]) ⟨hx, hb, hml, hown, hts⟩ (kX0_at l D cJ a3 64 lw (nI n) (by omega)) (va_cwS 2 hts gX0_lowerSum_X0_at rfl rfl rfl ok_X0_at ⟨Nat.le_of_ble_eq_true rfl, Nat.le_of_ble_eq_true rfl⟩) ⟨oo_blind, oo_ps hP hK [3] rfl [0] rfl⟩ rfl rfl hl.1 rfl (lv_room (Nat.le_of_ble_eq_true rfl)) dX0_lowerSum_28 ⟨Nat.le_of_ble_eq_true rfl, Nat.le_of_ble_eq_true rfl⟩) hP hS (fun H locs hP hS => ?_)
        refine lv_ladd hx hb dX0_lowerSum_31 ?_
        refine lv_lstore_n (lv' := [(3, .long ((kl_low lw b n) + (kvX0_at 64 lw (nI n)))), (0, .ref h), (1, .long b), (5, .int (nI n))]) hx hb dX0_lowerSum_32 rfl hl (by decide) rfl (fun ls hl => ?_)
        refine lv_iinc (v := nI (n + 1)) (lv' := [(5, .int (nI (n + 1))), (3, .long ((kl_low lw b n) + (kvX0_at 64 lw (nI n)))), (0, .ref h), (1, .long b)]) hx hb dX0_lowerSum_33 hl (k := 3) rfl (oo_inc n 1) (by decide) rfl (fun ls hl => ?_)
        refine lv_goto (tgt := 5) hx hb dX0_lowerSum_36 (by decide) ?_
        have hl : lv_has ls 6 [(0, .ref h), (1, .long b), (3, .long ((kl_low lw b n) + (kvX0_at 64 lw (nI n)))), (5, .int (nI (n + 1)))] := lv_sub hl [2, 3, 1, 0] rfl
        have hl := Eq.mp (congrArg (fun z9 => lv_has ls 6 [(0, .ref h), (1, .long b), (3, .long z9), (5, .int (nI (n + 1)))]) (show (kl_low lw b n) + (kvX0_at 64 lw (nI n)) = kl_low lw b (n + 1) from (by first | rfl | (simp only [kl_low]; done) | (simp only [kl_low]; rw [if_neg c_18])))) hl
        exact ihn _ _ _ ⟨hP, hS, hl⟩
def kl_sum (lw uw an : Nat → Int64) (qn : Nat) (q r : Int32) : Nat → Int64
  | 0 => 0
  | n + 1 => if lg_cmp (kvX0_at 64 uw (nI n)) 0 = 0 then kl_sum lw uw an qn q r n else kl_sum lw uw an qn q r n + kvX0_at 64 uw (nI n) * kvX0_lowerSum lw (kvX0_blockOf an qn q (nI n) &&& kvX0_blockOf an qn r (nI n))
theorem ok_X0_sumOfBoth : yX0_sumOfBoth.cls = RX0 ∧ yX0_sumOfBoth.cls ≠ "java/lang/invoke/MethodHandle" ∧ yX0_sumOfBoth.cls ≠ "java/lang/invoke/VarHandle" ∧ (parseMethodDescriptor yX0_sumOfBoth.desc).map (fun d => d.parameters.length) = some 2 := by decide +kernel
def kvX0_sumOfBoth (lw : Nat → Int64) (uw : Nat → Int64) (an : Nat → Int64) (qn : Nat) (q : Int32) (r : Int32) : Int64 := kl_sum lw uw an qn q r 64
set_option maxHeartbeats 4000000 in
set_option maxRecDepth 100000 in
theorem kX0_sumOfBoth (l : Launch) (D : va_G) (cJ : ClassId) (h a1 a2 a3 a4 a5 : Nat) (u d lw uw an : Nat → Int64) (fn qn : Nat) (sd : Int64) (q : Int32) (r : Int32) : RoL l yX0_sumOfBoth wsX0_sumOfBoth ({ frames := 2, cells := 0, slots := 0, locals := 47 } : Room) [.ref h, .int q, .int r] D (xW cJ h a1 a2 a3 a4 a5 u d lw uw an (nI fn) (nI qn) sd) [(cJ, .long)] (kvX0_sumOfBoth lw uw an qn q r) := by
  refine oo_head (C := RX0) (cc := cX0_sumOfBoth) (maxL := 8) (ret := (some .long)) (by decide) rfl rfl (Nat.le_of_ble_eq_true rfl) ?_
  intro p e s m below meth c hx hb hr hlocks hml hown hnm hts hpre ls hl
  have hl : lv_has ls 8 [(0, .ref h), (1, .int q), (2, .int r)] := hl
  obtain ⟨hP, hK⟩ := hpre
  have hS : va_S oo_N s.heap s.heap [] := va_S.rf
  have hin : ∀ w ∈ wsX00, w ∈ wsX0_sumOfBoth := fun w h => List.mem_cons_of_mem _ (List.mem_append_right _ h)
  refine lv_lconst (v := (0 : Int64)) hx hb dX0_sumOfBoth_0 (by decide) ?_
  refine lv_lstore_n (lv' := [(3, .long (0 : Int64)), (0, .ref h), (1, .int q), (2, .int r)]) hx hb dX0_sumOfBoth_1 rfl hl (by decide) rfl (fun ls hl => ?_)
  refine lv_iconst (v := nI 0) hx hb dX0_sumOfBoth_2 (by decide) ?_
  refine lv_istore (lv' := [(5, .int (nI 0)), (3, .long (0 : Int64)), (0, .ref h), (1, .int q), (2, .int r)]) hx hb dX0_sumOfBoth_3 hl (by decide) rfl (fun ls hl => ?_)
  have hl : lv_has ls 8 [(0, .ref h), (1, .int q), (2, .int r), (3, .long (0 : Int64)), (5, .int (nI 0))] := lv_sub hl [2, 3, 4, 1, 0] rfl
  have hl := Eq.mp (congrArg (fun z9 => lv_has ls 8 [(0, .ref h), (1, .int q), (2, .int r), (3, .long z9), (5, .int (nI 0))]) (show (0 : Int64) = kl_sum lw uw an qn q r 0 from (by first | rfl | (simp only [kl_sum]; done)))) hl
  refine oo_loop (N := 64) (fun n H locs ls => va_P D vwCl (xW cJ h a1 a2 a3 a4 a5 u d lw uw an (nI fn) (nI qn) sd) H ∧ va_S (oo_N) s.heap H locs ∧ lv_has ls 8 [(0, .ref h), (1, .int q), (2, .int r), (3, .long (kl_sum lw uw an qn q r n)), (5, .int (nI n))]) ?_ ?_ 0 (Nat.zero_le _) ⟨hP, hS, hl⟩
  · intro H locs ls hI
    obtain ⟨hP, hS, hl⟩ := hI
    refine lv_iload hx hb dX0_sumOfBoth_5 (lv_at hl 4 rfl) ?_
    refine lv_bipush (v := nI 64) hx hb dX0_sumOfBoth_7 (by decide) ?_
    refine lv_icmp_ge (tgt := 61) hx hb dX0_sumOfBoth_9 (by decide) (fun c_9 => ?_) (fun c_9 => ?_)
    · refine lv_lload_n hx hb dX0_sumOfBoth_61 rfl (lv_at hl 3 rfl) ?_
      exact ro_retl hx hb hr hlocks hS (by unfold kvX0_sumOfBoth; rfl) dX0_sumOfBoth_62
    · exact absurd (nI_le (Nat.le_refl _) (by omega)) c_9
  · intro n hltn ihn H locs ls hI
    obtain ⟨hP, hS, hl⟩ := hI
    refine lv_iload hx hb dX0_sumOfBoth_5 (lv_at hl 4 rfl) ?_
    refine lv_bipush (v := nI 64) hx hb dX0_sumOfBoth_7 (by decide) ?_
    refine lv_icmp_ge (tgt := 61) hx hb dX0_sumOfBoth_9 (by decide) (fun c_9 => ?_) (fun c_9 => ?_)
    · exact absurd c_9 (nI_ge hltn (by omega))
    · refine lv_aload_n hx hb dX0_sumOfBoth_12 rfl (lv_at hl 0 rfl) ?_
      refine va_get (D := D) (ci := 0) (v := .ref a4) (C := RX0) (T := TX0) (N := 8) hx hb hts hin hown hK hP 0 rfl rfl 3 (by decide) (hts (.fieldLink RX0 19 "OddsSampling" "upperWeights" "[J") (by decide +kernel)) (fun _ h9 => h9) rfl dX0_sumOfBoth_13 ?_
      refine lv_iload hx hb dX0_sumOfBoth_16 (lv_at hl 4 rfl) ?_
      refine ro_calll (va_runS (As := [.ref a4, .int (nI n)]) (rest := []) ⟨hx, hb, hml, hown, hts⟩ (kX0_at l D cJ a4 64 uw (nI n) (by omega)) (va_cwS 2 hts gX0_sumOfBoth_X0_at rfl rfl rfl ok_X0_at ⟨Nat.le_of_ble_eq_true rfl, Nat.le_of_ble_eq_true rfl⟩) ⟨oo_blind, oo_ps hP hK [4] rfl [0] rfl⟩ rfl rfl hl.1 rfl (lv_room (Nat.le_of_ble_eq_true rfl)) dX0_sumOfBoth_18 ⟨Nat.le_of_ble_eq_true rfl, Nat.le_of_ble_eq_true rfl⟩) hP hS (fun H locs hP hS => ?_)
      refine lv_lstore (lv' := [(6, .long (kvX0_at 64 uw (nI n))), (0, .ref h), (1, .int q), (2, .int r), (3, .long (kl_sum lw uw an qn q r n)), (5, .int (nI n))]) hx hb dX0_sumOfBoth_21 hl (by decide) rfl (fun ls hl => ?_)
      refine lv_lload hx hb dX0_sumOfBoth_23 (lv_at hl 0 rfl) ?_
      refine lv_lconst (v := (0 : Int64)) hx hb dX0_sumOfBoth_25 (by decide) ?_
      refine W.lcmp hx hb dX0_sumOfBoth_26 ?_
      refine lv_if_eq (tgt := 55) hx hb dX0_sumOfBoth_27 (by decide) (fun c_27 => ?_) (fun c_27 => ?_)
      · refine lv_iinc (v := nI (n + 1)) (lv' := [(5, .int (nI (n + 1))), (6, .long (kvX0_at 64 uw (nI n))), (0, .ref h), (1, .int q), (2, .int r), (3, .long (kl_sum lw uw an qn q r n))]) hx hb dX0_sumOfBoth_55 hl (k := 5) rfl (oo_inc n 1) (by decide) rfl (fun ls hl => ?_)
        refine lv_goto (tgt := 5) hx hb dX0_sumOfBoth_58 (by decide) ?_
        have hl : lv_has ls 8 [(0, .ref h), (1, .int q), (2, .int r), (3, .long (kl_sum lw uw an qn q r n)), (5, .int (nI (n + 1)))] := lv_sub hl [2, 3, 4, 5, 0] rfl
        have hl := Eq.mp (congrArg (fun z9 => lv_has ls 8 [(0, .ref h), (1, .int q), (2, .int r), (3, .long z9), (5, .int (nI (n + 1)))]) (show kl_sum lw uw an qn q r n = kl_sum lw uw an qn q r (n + 1) from (by first | rfl | (simp only [kl_sum]; done) | (simp only [kl_sum]; rw [if_pos c_27])))) hl
        exact ihn _ _ _ ⟨hP, hS, hl⟩
      · refine lv_lload_n hx hb dX0_sumOfBoth_30 rfl (lv_at hl 4 rfl) ?_
        refine lv_lload hx hb dX0_sumOfBoth_31 (lv_at hl 0 rfl) ?_
        refine lv_aload_n hx hb dX0_sumOfBoth_33 rfl (lv_at hl 1 rfl) ?_
        refine lv_aload_n hx hb dX0_sumOfBoth_34 rfl (lv_at hl 1 rfl) ?_
        refine lv_iload_n hx hb dX0_sumOfBoth_35 rfl (lv_at hl 2 rfl) ?_
        refine lv_iload hx hb dX0_sumOfBoth_36 (lv_at hl 5 rfl) ?_
        refine ro_calll (va_runV (As := [.int q, .int (nI n)]) (rest := [.ref h, .long (kvX0_at 64 uw (nI n)), .long (kl_sum lw uw an qn q r n)]) ⟨hx, hb, hml, hown, hts⟩ (kX0_blockOf l D cJ h a1 a2 a3 a4 a5 u d lw uw an fn qn sd q (nI n)) (cwV 2 hts gX0_sumOfBoth_X0_blockOf rfl rfl rfl ok_X0_blockOf ⟨Nat.le_of_ble_eq_true rfl, Nat.le_of_ble_eq_true rfl⟩) ⟨oo_blind, va_recv hK hP (ci := 0) (q0 := 0) rfl rfl, oo_ps hP hK [0, 1, 2, 3, 4, 5] rfl [0] rfl⟩ rfl rfl hl.1 rfl (lv_room (Nat.le_of_ble_eq_true rfl)) dX0_sumOfBoth_38 ⟨Nat.le_of_ble_eq_true rfl, Nat.le_of_ble_eq_true rfl⟩) hP hS (fun H locs hP hS => ?_)
        refine lv_aload_n hx hb dX0_sumOfBoth_41 rfl (lv_at hl 1 rfl) ?_
        refine lv_iload_n hx hb dX0_sumOfBoth_42 rfl (lv_at hl 3 rfl) ?_
        refine lv_iload hx hb dX0_sumOfBoth_43 (lv_at hl 5 rfl) ?_
        refine ro_calll (va_runV (As := [.int r, .int (nI n)]) (rest := [.long (kvX0_blockOf an qn q (nI n)), .ref h, .long (kvX0_at 64 uw (nI n)), .long (kl_sum lw uw an qn q r n)]) ⟨hx, hb, hml, hown, hts⟩ (kX0_blockOf l D cJ h a1 a2 a3 a4 a5 u d lw uw an fn qn sd r (nI n)) (cwV 2 hts gX0_sumOfBoth_X0_blockOf rfl rfl rfl ok_X0_blockOf ⟨Nat.le_of_ble_eq_true rfl, Nat.le_of_ble_eq_true rfl⟩) ⟨oo_blind, va_recv hK hP (ci := 0) (q0 := 0) rfl rfl, oo_ps hP hK [0, 1, 2, 3, 4, 5] rfl [0] rfl⟩ rfl rfl hl.1 rfl (lv_room (Nat.le_of_ble_eq_true rfl)) dX0_sumOfBoth_45 ⟨Nat.le_of_ble_eq_true rfl, Nat.le_of_ble_eq_true rfl⟩) hP hS (fun H locs hP hS => ?_)
        refine lv_land hx hb dX0_sumOfBoth_48 ?_
        refine ro_calll (va_runV (As := [.long ((kvX0_blockOf an qn q (nI n)) &&& (kvX0_blockOf an qn r (nI n)))]) (rest := [.long (kvX0_at 64 uw (nI n)), .long (kl_sum lw uw an qn q r n)]) ⟨hx, hb, hml, hown, hts⟩ (kX0_lowerSum l D cJ h a1 a2 a3 a4 a5 u d lw uw an fn qn sd ((kvX0_blockOf an qn q (nI n)) &&& (kvX0_blockOf an qn r (nI n)))) (cwV 1 hts gX0_sumOfBoth_X0_lowerSum rfl rfl rfl ok_X0_lowerSum ⟨Nat.le_of_ble_eq_true rfl, Nat.le_of_ble_eq_true rfl⟩) ⟨oo_blind, va_recv hK hP (ci := 0) (q0 := 0) rfl rfl, oo_ps hP hK [0, 1, 2, 3, 4, 5] rfl [0] rfl⟩ rfl rfl hl.1 rfl (lv_room (Nat.le_of_ble_eq_true rfl)) dX0_sumOfBoth_49 ⟨Nat.le_of_ble_eq_true rfl, Nat.le_of_ble_eq_true rfl⟩) hP hS (fun H locs hP hS => ?_)
        refine lv_lmul hx hb dX0_sumOfBoth_52 ?_
        refine lv_ladd hx hb dX0_sumOfBoth_53 ?_
        refine lv_lstore_n (lv' := [(3, .long ((kl_sum lw uw an qn q r n) + ((kvX0_at 64 uw (nI n)) * (kvX0_lowerSum lw ((kvX0_blockOf an qn q (nI n)) &&& (kvX0_blockOf an qn r (nI n))))))), (6, .long (kvX0_at 64 uw (nI n))), (0, .ref h), (1, .int q), (2, .int r), (5, .int (nI n))]) hx hb dX0_sumOfBoth_54 rfl hl (by decide) rfl (fun ls hl => ?_)
        refine lv_iinc (v := nI (n + 1)) (lv' := [(5, .int (nI (n + 1))), (3, .long ((kl_sum lw uw an qn q r n) + ((kvX0_at 64 uw (nI n)) * (kvX0_lowerSum lw ((kvX0_blockOf an qn q (nI n)) &&& (kvX0_blockOf an qn r (nI n))))))), (6, .long (kvX0_at 64 uw (nI n))), (0, .ref h), (1, .int q), (2, .int r)]) hx hb dX0_sumOfBoth_55 hl (k := 5) rfl (oo_inc n 1) (by decide) rfl (fun ls hl => ?_)
        refine lv_goto (tgt := 5) hx hb dX0_sumOfBoth_58 (by decide) ?_
        have hl : lv_has ls 8 [(0, .ref h), (1, .int q), (2, .int r), (3, .long ((kl_sum lw uw an qn q r n) + ((kvX0_at 64 uw (nI n)) * (kvX0_lowerSum lw ((kvX0_blockOf an qn q (nI n)) &&& (kvX0_blockOf an qn r (nI n))))))), (5, .int (nI (n + 1)))] := lv_sub hl [3, 4, 5, 1, 0] rfl
        have hl := Eq.mp (congrArg (fun z9 => lv_has ls 8 [(0, .ref h), (1, .int q), (2, .int r), (3, .long z9), (5, .int (nI (n + 1)))]) (show (kl_sum lw uw an qn q r n) + ((kvX0_at 64 uw (nI n)) * (kvX0_lowerSum lw ((kvX0_blockOf an qn q (nI n)) &&& (kvX0_blockOf an qn r (nI n))))) = kl_sum lw uw an qn q r (n + 1) from (by first | rfl | (simp only [kl_sum]; done) | (simp only [kl_sum]; rw [if_neg c_27])))) hl
        exact ihn _ _ _ ⟨hP, hS, hl⟩
def kl_allBut (d : Nat → Int64) (k : Int32) : Nat → Int64
  | 0 => 1
  | n + 1 => if nI n = k then kl_allBut d k n else kl_allBut d k n * kvX0_at 12 d (nI n)
theorem ok_X0_allBut : yX0_allBut.cls = RX0 ∧ yX0_allBut.cls ≠ "java/lang/invoke/MethodHandle" ∧ yX0_allBut.cls ≠ "java/lang/invoke/VarHandle" ∧ (parseMethodDescriptor yX0_allBut.desc).map (fun d => d.parameters.length) = some 1 := by decide +kernel
def kvX0_allBut (d : Nat → Int64) (fn : Nat) (k : Int32) : Int64 := kl_allBut d k fn
set_option maxHeartbeats 4000000 in
set_option maxRecDepth 100000 in
theorem kX0_allBut (l : Launch) (D : va_G) (cJ : ClassId) (h a1 a2 a3 a4 a5 : Nat) (u d lw uw an : Nat → Int64) (fn qn : Nat) (sd : Int64) (k : Int32) (hfn : fn ≤ 12) : RoL l yX0_allBut wsX0_allBut ({ frames := 1, cells := 0, slots := 0, locals := 21 } : Room) [.ref h, .int k] D (xW cJ h a1 a2 a3 a4 a5 u d lw uw an (nI fn) (nI qn) sd) [(cJ, .long)] (kvX0_allBut d fn k) := by
  refine oo_head (C := RX0) (cc := cX0_allBut) (maxL := 5) (ret := (some .long)) (by decide) rfl rfl (Nat.le_of_ble_eq_true rfl) ?_
  intro p e s m below meth c hx hb hr hlocks hml hown hnm hts hpre ls hl
  have hl : lv_has ls 5 [(0, .ref h), (1, .int k)] := hl
  obtain ⟨hP, hK⟩ := hpre
  have hS : va_S oo_N s.heap s.heap [] := va_S.rf
  have hin : ∀ w ∈ wsX00, w ∈ wsX0_allBut := fun w h => List.mem_cons_of_mem _ (List.mem_append_right _ h)
  refine lv_lconst (v := (1 : Int64)) hx hb dX0_allBut_0 (by decide) ?_
  refine lv_lstore_n (lv' := [(2, .long (1 : Int64)), (0, .ref h), (1, .int k)]) hx hb dX0_allBut_1 rfl hl (by decide) rfl (fun ls hl => ?_)
  refine lv_iconst (v := nI 0) hx hb dX0_allBut_2 (by decide) ?_
  refine lv_istore (lv' := [(4, .int (nI 0)), (2, .long (1 : Int64)), (0, .ref h), (1, .int k)]) hx hb dX0_allBut_3 hl (by decide) rfl (fun ls hl => ?_)
  have hl : lv_has ls 5 [(0, .ref h), (1, .int k), (2, .long (1 : Int64)), (4, .int (nI 0))] := lv_sub hl [2, 3, 1, 0] rfl
  have hl := Eq.mp (congrArg (fun z9 => lv_has ls 5 [(0, .ref h), (1, .int k), (2, .long z9), (4, .int (nI 0))]) (show (1 : Int64) = kl_allBut d k 0 from (by first | rfl | (simp only [kl_allBut]; done)))) hl
  refine oo_loop (N := fn) (fun n H locs ls => va_P D vwCl (xW cJ h a1 a2 a3 a4 a5 u d lw uw an (nI fn) (nI qn) sd) H ∧ va_S (oo_N) s.heap H locs ∧ lv_has ls 5 [(0, .ref h), (1, .int k), (2, .long (kl_allBut d k n)), (4, .int (nI n))]) ?_ ?_ 0 (Nat.zero_le _) ⟨hP, hS, hl⟩
  · intro H locs ls hI
    obtain ⟨hP, hS, hl⟩ := hI
    refine lv_iload hx hb dX0_allBut_5 (lv_at hl 3 rfl) ?_
    refine lv_aload_n hx hb dX0_allBut_7 rfl (lv_at hl 0 rfl) ?_
    refine va_get (D := D) (ci := 0) (v := .int (nI fn)) (C := RX0) (T := TX0) (N := 8) hx hb hts hin hown hK hP 0 rfl rfl 5 (by decide) (hts (.fieldLink RX0 25 "OddsSampling" "factCount" "I") (by decide +kernel)) (fun _ h9 => h9) rfl dX0_allBut_8 ?_
    refine lv_icmp_ge (tgt := 38) hx hb dX0_allBut_11 (by decide) (fun c_11 => ?_) (fun c_11 => ?_)
    · refine lv_lload_n hx hb dX0_allBut_38 rfl (lv_at hl 2 rfl) ?_
      exact ro_retl hx hb hr hlocks hS (by unfold kvX0_allBut; rfl) dX0_allBut_39
    · exact absurd (nI_le (Nat.le_refl _) (by omega)) c_11
  · intro n hltn ihn H locs ls hI
    obtain ⟨hP, hS, hl⟩ := hI
    refine lv_iload hx hb dX0_allBut_5 (lv_at hl 3 rfl) ?_
    refine lv_aload_n hx hb dX0_allBut_7 rfl (lv_at hl 0 rfl) ?_
    refine va_get (D := D) (ci := 0) (v := .int (nI fn)) (C := RX0) (T := TX0) (N := 8) hx hb hts hin hown hK hP 0 rfl rfl 5 (by decide) (hts (.fieldLink RX0 25 "OddsSampling" "factCount" "I") (by decide +kernel)) (fun _ h9 => h9) rfl dX0_allBut_8 ?_
    refine lv_icmp_ge (tgt := 38) hx hb dX0_allBut_11 (by decide) (fun c_11 => ?_) (fun c_11 => ?_)
    · exact absurd c_11 (nI_ge hltn (by omega))
    · refine lv_iload hx hb dX0_allBut_14 (lv_at hl 3 rfl) ?_
      refine lv_iload_n hx hb dX0_allBut_16 rfl (lv_at hl 1 rfl) ?_
      refine lv_icmp_eq (tgt := 32) hx hb dX0_allBut_17 (by decide) (fun c_17 => ?_) (fun c_17 => ?_)
      · refine lv_iinc (v := nI (n + 1)) (lv' := [(4, .int (nI (n + 1))), (0, .ref h), (1, .int k), (2, .long (kl_allBut d k n))]) hx hb dX0_allBut_32 hl (k := 3) rfl (oo_inc n 1) (by decide) rfl (fun ls hl => ?_)
        refine lv_goto (tgt := 5) hx hb dX0_allBut_35 (by decide) ?_
        have hl : lv_has ls 5 [(0, .ref h), (1, .int k), (2, .long (kl_allBut d k n)), (4, .int (nI (n + 1)))] := lv_sub hl [1, 2, 3, 0] rfl
        have hl := Eq.mp (congrArg (fun z9 => lv_has ls 5 [(0, .ref h), (1, .int k), (2, .long z9), (4, .int (nI (n + 1)))]) (show kl_allBut d k n = kl_allBut d k (n + 1) from (by first | rfl | (simp only [kl_allBut]; done) | (simp only [kl_allBut]; rw [if_pos c_17])))) hl
        exact ihn _ _ _ ⟨hP, hS, hl⟩
      · refine lv_lload_n hx hb dX0_allBut_20 rfl (lv_at hl 2 rfl) ?_
        refine lv_aload_n hx hb dX0_allBut_21 rfl (lv_at hl 0 rfl) ?_
        refine va_get (D := D) (ci := 0) (v := .ref a2) (C := RX0) (T := TX0) (N := 8) hx hb hts hin hown hK hP 0 rfl rfl 1 (by decide) (hts (.fieldLink RX0 13 "OddsSampling" "downs" "[J") (by decide +kernel)) (fun _ h9 => h9) rfl dX0_allBut_22 ?_
        refine lv_iload hx hb dX0_allBut_25 (lv_at hl 3 rfl) ?_
        refine ro_calll (va_runS (As := [.ref a2, .int (nI n)]) (rest := [.long (kl_allBut d k n)]) ⟨hx, hb, hml, hown, hts⟩ (kX0_at l D cJ a2 12 d (nI n) (by omega)) (va_cwS 2 hts gX0_allBut_X0_at rfl rfl rfl ok_X0_at ⟨Nat.le_of_ble_eq_true rfl, Nat.le_of_ble_eq_true rfl⟩) ⟨oo_blind, oo_ps hP hK [2] rfl [0] rfl⟩ rfl rfl hl.1 rfl (lv_room (Nat.le_of_ble_eq_true rfl)) dX0_allBut_27 ⟨Nat.le_of_ble_eq_true rfl, Nat.le_of_ble_eq_true rfl⟩) hP hS (fun H locs hP hS => ?_)
        refine lv_lmul hx hb dX0_allBut_30 ?_
        refine lv_lstore_n (lv' := [(2, .long ((kl_allBut d k n) * (kvX0_at 12 d (nI n)))), (0, .ref h), (1, .int k), (4, .int (nI n))]) hx hb dX0_allBut_31 rfl hl (by decide) rfl (fun ls hl => ?_)
        refine lv_iinc (v := nI (n + 1)) (lv' := [(4, .int (nI (n + 1))), (2, .long ((kl_allBut d k n) * (kvX0_at 12 d (nI n)))), (0, .ref h), (1, .int k)]) hx hb dX0_allBut_32 hl (k := 3) rfl (oo_inc n 1) (by decide) rfl (fun ls hl => ?_)
        refine lv_goto (tgt := 5) hx hb dX0_allBut_35 (by decide) ?_
        have hl : lv_has ls 5 [(0, .ref h), (1, .int k), (2, .long ((kl_allBut d k n) * (kvX0_at 12 d (nI n)))), (4, .int (nI (n + 1)))] := lv_sub hl [2, 3, 1, 0] rfl
        have hl := Eq.mp (congrArg (fun z9 => lv_has ls 5 [(0, .ref h), (1, .int k), (2, .long z9), (4, .int (nI (n + 1)))]) (show (kl_allBut d k n) * (kvX0_at 12 d (nI n)) = kl_allBut d k (n + 1) from (by first | rfl | (simp only [kl_allBut]; done) | (simp only [kl_allBut]; rw [if_neg c_17])))) hl
        exact ihn _ _ _ ⟨hP, hS, hl⟩
def kl_lik (lw uw an : Nat → Int64) (qn : Nat) (q : Int32) : Nat → Int32 × Int64
  | 0 => (-2, -1)
  | n + 1 => if kvX0_isTrue an qn q (nI n) = 0 then kl_lik lw uw an qn q n else (if lg_cmp (kvX0_weightOf lw uw (nI n)) (kl_lik lw uw an qn q n).2 ≤ 0 then kl_lik lw uw an qn q n else (nI n, kvX0_weightOf lw uw (nI n)))
theorem ok_X0_likeliestWorld : yX0_likeliestWorld.cls = RX0 ∧ yX0_likeliestWorld.cls ≠ "java/lang/invoke/MethodHandle" ∧ yX0_likeliestWorld.cls ≠ "java/lang/invoke/VarHandle" ∧ (parseMethodDescriptor yX0_likeliestWorld.desc).map (fun d => d.parameters.length) = some 1 := by decide +kernel
def kvX0_likeliestWorld (lw : Nat → Int64) (uw : Nat → Int64) (an : Nat → Int64) (fn : Nat) (qn : Nat) (q : Int32) : Int32 := (kl_lik lw uw an qn q (2 ^ fn)).1
set_option maxHeartbeats 4000000 in
set_option maxRecDepth 100000 in
theorem kX0_likeliestWorld (l : Launch) (D : va_G) (cJ : ClassId) (h a1 a2 a3 a4 a5 : Nat) (u d lw uw an : Nat → Int64) (fn qn : Nat) (sd : Int64) (q : Int32) (hfn : fn ≤ 12) : RoI l yX0_likeliestWorld wsX0_likeliestWorld ({ frames := 3, cells := 0, slots := 0, locals := 67 } : Room) [.ref h, .int q] D (xW cJ h a1 a2 a3 a4 a5 u d lw uw an (nI fn) (nI qn) sd) [(cJ, .long)] (kvX0_likeliestWorld lw uw an fn qn q) := by
  refine oo_head (C := RX0) (cc := cX0_likeliestWorld) (maxL := 7) (ret := (some .int)) (by decide) rfl rfl (Nat.le_of_ble_eq_true rfl) ?_
  intro p e s m below meth c hx hb hr hlocks hml hown hnm hts hpre ls hl
  have hl : lv_has ls 7 [(0, .ref h), (1, .int q)] := hl
  obtain ⟨hP, hK⟩ := hpre
  have hS : va_S oo_N s.heap s.heap [] := va_S.rf
  have hin : ∀ w ∈ wsX00, w ∈ wsX0_likeliestWorld := fun w h => List.mem_cons_of_mem _ (List.mem_append_right _ h)
  have h2n : 2 ^ fn ≤ 2 ^ 12 := Nat.pow_le_pow_right (by omega) hfn
  refine lv_bipush (v := (-2 : Int32)) hx hb dX0_likeliestWorld_0 (by decide) ?_
  refine lv_istore_n (lv' := [(2, .int (-2 : Int32)), (0, .ref h), (1, .int q)]) hx hb dX0_likeliestWorld_2 rfl hl (by decide) rfl (fun ls hl => ?_)
  refine lv_ldc2 hx hb hown (hts (.constantLong RX0 98 (-1)) (by decide +kernel)) dX0_likeliestWorld_3 ?_
  refine lv_lstore_n (lv' := [(3, .long (-1 : Int64)), (2, .int (-2 : Int32)), (0, .ref h), (1, .int q)]) hx hb dX0_likeliestWorld_6 rfl hl (by decide) rfl (fun ls hl => ?_)
  refine lv_iconst (v := (1 : Int32)) hx hb dX0_likeliestWorld_7 (by decide) ?_
  refine lv_aload_n hx hb dX0_likeliestWorld_8 rfl (lv_at hl 2 rfl) ?_
  refine va_get (D := D) (ci := 0) (v := .int (nI fn)) (C := RX0) (T := TX0) (N := 8) hx hb hts hin hown hK hP 0 rfl rfl 5 (by decide) (hts (.fieldLink RX0 25 "OddsSampling" "factCount" "I") (by decide +kernel)) (fun _ h9 => h9) rfl dX0_likeliestWorld_9 ?_
  refine lv_ishl hx hb dX0_likeliestWorld_12 ?_
  refine oo_topI (y := nI (2 ^ fn)) (oo_shl1 fn (by omega)) ?_
  refine lv_istore (lv' := [(5, .int (nI (2 ^ fn))), (3, .long (-1 : Int64)), (2, .int (-2 : Int32)), (0, .ref h), (1, .int q)]) hx hb dX0_likeliestWorld_13 hl (by decide) rfl (fun ls hl => ?_)
  refine lv_iconst (v := nI 0) hx hb dX0_likeliestWorld_15 (by decide) ?_
  refine lv_istore (lv' := [(6, .int (nI 0)), (5, .int (nI (2 ^ fn))), (3, .long (-1 : Int64)), (2, .int (-2 : Int32)), (0, .ref h), (1, .int q)]) hx hb dX0_likeliestWorld_16 hl (by decide) rfl (fun ls hl => ?_)
  have hl : lv_has ls 7 [(0, .ref h), (1, .int q), (2, .int (-2 : Int32)), (3, .long (-1 : Int64)), (5, .int (nI (2 ^ fn))), (6, .int (nI 0))] := lv_sub hl [4, 5, 3, 2, 1, 0] rfl
  have hl := Eq.mp (congrArg (fun z9 => lv_has ls 7 [(0, .ref h), (1, .int q), (2, .int z9), (3, .long (-1 : Int64)), (5, .int (nI (2 ^ fn))), (6, .int (nI 0))]) (show (-2 : Int32) = (kl_lik lw uw an qn q 0).1 from (by first | rfl | (simp only [kl_lik]; done)))) hl
  have hl := Eq.mp (congrArg (fun z9 => lv_has ls 7 [(0, .ref h), (1, .int q), (2, .int ((kl_lik lw uw an qn q 0).1)), (3, .long z9), (5, .int (nI (2 ^ fn))), (6, .int (nI 0))]) (show (-1 : Int64) = (kl_lik lw uw an qn q 0).2 from (by first | rfl | (simp only [kl_lik]; done)))) hl
  refine oo_loop (N := (2 ^ fn)) (fun n H locs ls => va_P D vwCl (xW cJ h a1 a2 a3 a4 a5 u d lw uw an (nI fn) (nI qn) sd) H ∧ va_S (oo_N) s.heap H locs ∧ lv_has ls 7 [(0, .ref h), (1, .int q), (2, .int ((kl_lik lw uw an qn q n).1)), (3, .long ((kl_lik lw uw an qn q n).2)), (5, .int (nI (2 ^ fn))), (6, .int (nI n))]) ?_ ?_ 0 (Nat.zero_le _) ⟨hP, hS, hl⟩
  · intro H locs ls hI
    obtain ⟨hP, hS, hl⟩ := hI
    refine lv_iload hx hb dX0_likeliestWorld_18 (lv_at hl 5 rfl) ?_
    refine lv_iload hx hb dX0_likeliestWorld_20 (lv_at hl 4 rfl) ?_
    refine lv_icmp_ge (tgt := 62) hx hb dX0_likeliestWorld_22 (by decide) (fun c_22 => ?_) (fun c_22 => ?_)
    · refine lv_iload_n hx hb dX0_likeliestWorld_62 rfl (lv_at hl 2 rfl) ?_
      exact ro_reti hx hb hr hlocks hS (by unfold kvX0_likeliestWorld; rfl) dX0_likeliestWorld_63
    · exact absurd (nI_le (Nat.le_refl _) (by omega)) c_22
  · intro n hltn ihn H locs ls hI
    obtain ⟨hP, hS, hl⟩ := hI
    refine lv_iload hx hb dX0_likeliestWorld_18 (lv_at hl 5 rfl) ?_
    refine lv_iload hx hb dX0_likeliestWorld_20 (lv_at hl 4 rfl) ?_
    refine lv_icmp_ge (tgt := 62) hx hb dX0_likeliestWorld_22 (by decide) (fun c_22 => ?_) (fun c_22 => ?_)
    · exact absurd c_22 (nI_ge hltn (by omega))
    · refine lv_aload_n hx hb dX0_likeliestWorld_25 rfl (lv_at hl 0 rfl) ?_
      refine lv_iload_n hx hb dX0_likeliestWorld_26 rfl (lv_at hl 1 rfl) ?_
      refine lv_iload hx hb dX0_likeliestWorld_27 (lv_at hl 5 rfl) ?_
      refine ro_calli (va_runV (As := [.int q, .int (nI n)]) (rest := []) ⟨hx, hb, hml, hown, hts⟩ (kX0_isTrue l D cJ h a1 a2 a3 a4 a5 u d lw uw an fn qn sd q (nI n)) (cwV 2 hts gX0_likeliestWorld_X0_isTrue rfl rfl rfl ok_X0_isTrue ⟨Nat.le_of_ble_eq_true rfl, Nat.le_of_ble_eq_true rfl⟩) ⟨oo_blind, va_recv hK hP (ci := 0) (q0 := 0) rfl rfl, oo_ps hP hK [0, 1, 2, 3, 4, 5] rfl [0] rfl⟩ rfl rfl hl.1 rfl (lv_room (Nat.le_of_ble_eq_true rfl)) dX0_likeliestWorld_29 ⟨Nat.le_of_ble_eq_true rfl, Nat.le_of_ble_eq_true rfl⟩) hP hS (fun H locs hP hS => ?_)
      refine lv_if_eq (tgt := 56) hx hb dX0_likeliestWorld_32 (by decide) (fun c_32 => ?_) (fun c_32 => ?_)
      · refine lv_iinc (v := nI (n + 1)) (lv' := [(6, .int (nI (n + 1))), (0, .ref h), (1, .int q), (2, .int ((kl_lik lw uw an qn q n).1)), (3, .long ((kl_lik lw uw an qn q n).2)), (5, .int (nI (2 ^ fn)))]) hx hb dX0_likeliestWorld_56 hl (k := 5) rfl (oo_inc n 1) (by decide) rfl (fun ls hl => ?_)
        refine lv_goto (tgt := 18) hx hb dX0_likeliestWorld_59 (by decide) ?_
        have hl : lv_has ls 7 [(0, .ref h), (1, .int q), (2, .int ((kl_lik lw uw an qn q n).1)), (3, .long ((kl_lik lw uw an qn q n).2)), (5, .int (nI (2 ^ fn))), (6, .int (nI (n + 1)))] := lv_sub hl [1, 2, 3, 4, 5, 0] rfl
        have hl := Eq.mp (congrArg (fun z9 => lv_has ls 7 [(0, .ref h), (1, .int q), (2, .int z9), (3, .long ((kl_lik lw uw an qn q n).2)), (5, .int (nI (2 ^ fn))), (6, .int (nI (n + 1)))]) (show (kl_lik lw uw an qn q n).1 = (kl_lik lw uw an qn q (n + 1)).1 from (by first | rfl | (simp only [kl_lik]; done) | (simp only [kl_lik]; rw [if_pos c_32])))) hl
        have hl := Eq.mp (congrArg (fun z9 => lv_has ls 7 [(0, .ref h), (1, .int q), (2, .int ((kl_lik lw uw an qn q (n + 1)).1)), (3, .long z9), (5, .int (nI (2 ^ fn))), (6, .int (nI (n + 1)))]) (show (kl_lik lw uw an qn q n).2 = (kl_lik lw uw an qn q (n + 1)).2 from (by first | rfl | (simp only [kl_lik]; done) | (simp only [kl_lik]; rw [if_pos c_32])))) hl
        exact ihn _ _ _ ⟨hP, hS, hl⟩
      · refine lv_aload_n hx hb dX0_likeliestWorld_35 rfl (lv_at hl 0 rfl) ?_
        refine lv_iload hx hb dX0_likeliestWorld_36 (lv_at hl 5 rfl) ?_
        refine ro_calll (va_runV (As := [.int (nI n)]) (rest := []) ⟨hx, hb, hml, hown, hts⟩ (kX0_weightOf l D cJ h a1 a2 a3 a4 a5 u d lw uw an fn qn sd (nI n)) (cwV 1 hts gX0_likeliestWorld_X0_weightOf rfl rfl rfl ok_X0_weightOf ⟨Nat.le_of_ble_eq_true rfl, Nat.le_of_ble_eq_true rfl⟩) ⟨oo_blind, va_recv hK hP (ci := 0) (q0 := 0) rfl rfl, oo_ps hP hK [0, 1, 2, 3, 4, 5] rfl [0] rfl⟩ rfl rfl hl.1 rfl (lv_room (Nat.le_of_ble_eq_true rfl)) dX0_likeliestWorld_38 ⟨Nat.le_of_ble_eq_true rfl, Nat.le_of_ble_eq_true rfl⟩) hP hS (fun H locs hP hS => ?_)
        refine lv_lload_n hx hb dX0_likeliestWorld_41 rfl (lv_at hl 3 rfl) ?_
        refine W.lcmp hx hb dX0_likeliestWorld_42 ?_
        refine lv_if_le (tgt := 56) hx hb dX0_likeliestWorld_43 (by decide) (fun c_43 => ?_) (fun c_43 => ?_)
        · refine lv_iinc (v := nI (n + 1)) (lv' := [(6, .int (nI (n + 1))), (0, .ref h), (1, .int q), (2, .int ((kl_lik lw uw an qn q n).1)), (3, .long ((kl_lik lw uw an qn q n).2)), (5, .int (nI (2 ^ fn)))]) hx hb dX0_likeliestWorld_56 hl (k := 5) rfl (oo_inc n 1) (by decide) rfl (fun ls hl => ?_)
          refine lv_goto (tgt := 18) hx hb dX0_likeliestWorld_59 (by decide) ?_
          have hl : lv_has ls 7 [(0, .ref h), (1, .int q), (2, .int ((kl_lik lw uw an qn q n).1)), (3, .long ((kl_lik lw uw an qn q n).2)), (5, .int (nI (2 ^ fn))), (6, .int (nI (n + 1)))] := lv_sub hl [1, 2, 3, 4, 5, 0] rfl
          have hl := Eq.mp (congrArg (fun z9 => lv_has ls 7 [(0, .ref h), (1, .int q), (2, .int z9), (3, .long ((kl_lik lw uw an qn q n).2)), (5, .int (nI (2 ^ fn))), (6, .int (nI (n + 1)))]) (show (kl_lik lw uw an qn q n).1 = (kl_lik lw uw an qn q (n + 1)).1 from (by first | rfl | (simp only [kl_lik]; done) | (simp only [kl_lik]; rw [if_neg c_32, if_pos c_43])))) hl
          have hl := Eq.mp (congrArg (fun z9 => lv_has ls 7 [(0, .ref h), (1, .int q), (2, .int ((kl_lik lw uw an qn q (n + 1)).1)), (3, .long z9), (5, .int (nI (2 ^ fn))), (6, .int (nI (n + 1)))]) (show (kl_lik lw uw an qn q n).2 = (kl_lik lw uw an qn q (n + 1)).2 from (by first | rfl | (simp only [kl_lik]; done) | (simp only [kl_lik]; rw [if_neg c_32, if_pos c_43])))) hl
          exact ihn _ _ _ ⟨hP, hS, hl⟩
        · refine lv_iload hx hb dX0_likeliestWorld_46 (lv_at hl 5 rfl) ?_
          refine lv_istore_n (lv' := [(2, .int (nI n)), (0, .ref h), (1, .int q), (3, .long ((kl_lik lw uw an qn q n).2)), (5, .int (nI (2 ^ fn))), (6, .int (nI n))]) hx hb dX0_likeliestWorld_48 rfl hl (by decide) rfl (fun ls hl => ?_)
          refine lv_aload_n hx hb dX0_likeliestWorld_49 rfl (lv_at hl 1 rfl) ?_
          refine lv_iload hx hb dX0_likeliestWorld_50 (lv_at hl 5 rfl) ?_
          refine ro_calll (va_runV (As := [.int (nI n)]) (rest := []) ⟨hx, hb, hml, hown, hts⟩ (kX0_weightOf l D cJ h a1 a2 a3 a4 a5 u d lw uw an fn qn sd (nI n)) (cwV 1 hts gX0_likeliestWorld_X0_weightOf rfl rfl rfl ok_X0_weightOf ⟨Nat.le_of_ble_eq_true rfl, Nat.le_of_ble_eq_true rfl⟩) ⟨oo_blind, va_recv hK hP (ci := 0) (q0 := 0) rfl rfl, oo_ps hP hK [0, 1, 2, 3, 4, 5] rfl [0] rfl⟩ rfl rfl hl.1 rfl (lv_room (Nat.le_of_ble_eq_true rfl)) dX0_likeliestWorld_52 ⟨Nat.le_of_ble_eq_true rfl, Nat.le_of_ble_eq_true rfl⟩) hP hS (fun H locs hP hS => ?_)
          refine lv_lstore_n (lv' := [(3, .long (kvX0_weightOf lw uw (nI n))), (2, .int (nI n)), (0, .ref h), (1, .int q), (5, .int (nI (2 ^ fn))), (6, .int (nI n))]) hx hb dX0_likeliestWorld_55 rfl hl (by decide) rfl (fun ls hl => ?_)
          refine lv_iinc (v := nI (n + 1)) (lv' := [(6, .int (nI (n + 1))), (3, .long (kvX0_weightOf lw uw (nI n))), (2, .int (nI n)), (0, .ref h), (1, .int q), (5, .int (nI (2 ^ fn)))]) hx hb dX0_likeliestWorld_56 hl (k := 5) rfl (oo_inc n 1) (by decide) rfl (fun ls hl => ?_)
          refine lv_goto (tgt := 18) hx hb dX0_likeliestWorld_59 (by decide) ?_
          have hl : lv_has ls 7 [(0, .ref h), (1, .int q), (2, .int (nI n)), (3, .long (kvX0_weightOf lw uw (nI n))), (5, .int (nI (2 ^ fn))), (6, .int (nI (n + 1)))] := lv_sub hl [3, 4, 2, 1, 5, 0] rfl
          have hl := Eq.mp (congrArg (fun z9 => lv_has ls 7 [(0, .ref h), (1, .int q), (2, .int z9), (3, .long (kvX0_weightOf lw uw (nI n))), (5, .int (nI (2 ^ fn))), (6, .int (nI (n + 1)))]) (show nI n = (kl_lik lw uw an qn q (n + 1)).1 from (by first | rfl | (simp only [kl_lik]; done) | (simp only [kl_lik]; rw [if_neg c_32, if_neg c_43])))) hl
          have hl := Eq.mp (congrArg (fun z9 => lv_has ls 7 [(0, .ref h), (1, .int q), (2, .int ((kl_lik lw uw an qn q (n + 1)).1)), (3, .long z9), (5, .int (nI (2 ^ fn))), (6, .int (nI (n + 1)))]) (show kvX0_weightOf lw uw (nI n) = (kl_lik lw uw an qn q (n + 1)).2 from (by first | rfl | (simp only [kl_lik]; done) | (simp only [kl_lik]; rw [if_neg c_32, if_neg c_43])))) hl
          exact ihn _ _ _ ⟨hP, hS, hl⟩
def kl_gcd (a b : Int64) : Nat → Int64 × Int64
  | 0 => (a, b)
  | n + 1 => if lg_cmp (kl_gcd a b n).2 0 = 0 then kl_gcd a b n else ((kl_gcd a b n).2, (kl_gcd a b n).1 - (kl_gcd a b n).1 / (kl_gcd a b n).2 * (kl_gcd a b n).2)
def kl_abs (a : Int64) : Int64 := if 0 ≤ lg_cmp a 0 then a else -a
theorem kl_gcd_stop {a b : Int64} {n : Nat} (h : lg_cmp (kl_gcd a b n).2 0 = 0) : ∀ m, n ≤ m → kl_gcd a b m = kl_gcd a b n := by
  intro m hm
  induction hm with
  | refl => rfl
  | step hm ih => simp only [kl_gcd]; rw [ih, if_pos h]
theorem ok_X0_greatestDivisor : yX0_greatestDivisor.cls ≠ "java/lang/invoke/MethodHandle" ∧ yX0_greatestDivisor.cls ≠ "java/lang/invoke/VarHandle" ∧ (parseMethodDescriptor yX0_greatestDivisor.desc).map (fun d => d.parameters.length) = some 2 := by decide +kernel
set_option maxHeartbeats 4000000 in
set_option maxRecDepth 100000 in
theorem kX0_greatestDivisor (l : Launch) (D : va_G) (a : Int64) (b : Int64) : RoL l yX0_greatestDivisor wsX0_greatestDivisor ({ frames := 0, cells := 0, slots := 0, locals := 0 } : Room) [.long a, .long b] D ([]) [] ((kl_gcd (kl_abs a) (kl_abs b) 100).1) := by
  refine oo_head (C := RX0) (cc := cX0_greatestDivisor) (maxL := 11) (ret := (some .long)) (by decide) rfl rfl (Nat.le_of_ble_eq_true rfl) ?_
  intro p e s m below meth c hx hb hr hlocks hml hown hnm hts hpre ls hl
  have hl : lv_has ls 11 [(0, .long a), (2, .long b)] := hl
  obtain ⟨hP, hK⟩ := hpre
  have hS : va_S oo_N s.heap s.heap [] := va_S.rf
  refine lv_lload_n hx hb dX0_greatestDivisor_0 rfl (lv_at hl 0 rfl) ?_
  refine lv_lconst (v := (0 : Int64)) hx hb dX0_greatestDivisor_1 (by decide) ?_
  refine W.lcmp hx hb dX0_greatestDivisor_2 ?_
  refine lv_if_ge (tgt := 11) hx hb dX0_greatestDivisor_3 (by decide) (fun c_3 => ?_) (fun c_3 => ?_)
  · refine lv_lload_n hx hb dX0_greatestDivisor_11 rfl (lv_at hl 0 rfl) ?_
    refine oo_topL (y := kl_abs a) (if_pos c_3).symm ?_
    refine lv_lstore (lv' := [(4, .long (kl_abs a)), (0, .long a), (2, .long b)]) hx hb dX0_greatestDivisor_12 hl (by decide) rfl (fun ls hl => ?_)
    refine lv_lload_n hx hb dX0_greatestDivisor_14 rfl (lv_at hl 2 rfl) ?_
    refine lv_lconst (v := (0 : Int64)) hx hb dX0_greatestDivisor_15 (by decide) ?_
    refine W.lcmp hx hb dX0_greatestDivisor_16 ?_
    refine lv_if_ge (tgt := 25) hx hb dX0_greatestDivisor_17 (by decide) (fun c_17 => ?_) (fun c_17 => ?_)
    · refine lv_lload_n hx hb dX0_greatestDivisor_25 rfl (lv_at hl 2 rfl) ?_
      refine oo_topL (y := kl_abs b) (if_pos c_17).symm ?_
      refine lv_lstore (lv' := [(6, .long (kl_abs b)), (4, .long (kl_abs a)), (0, .long a), (2, .long b)]) hx hb dX0_greatestDivisor_26 hl (by decide) rfl (fun ls hl => ?_)
      refine lv_iconst (v := nI 0) hx hb dX0_greatestDivisor_28 (by decide) ?_
      refine lv_istore (lv' := [(8, .int (nI 0)), (6, .long (kl_abs b)), (4, .long (kl_abs a)), (0, .long a), (2, .long b)]) hx hb dX0_greatestDivisor_29 hl (by decide) rfl (fun ls hl => ?_)
      have hl : lv_has ls 11 [(0, .long a), (2, .long b), (4, .long (kl_abs a)), (6, .long (kl_abs b)), (8, .int (nI 0))] := lv_sub hl [3, 4, 2, 1, 0] rfl
      have hl := Eq.mp (congrArg (fun z9 => lv_has ls 11 [(0, .long a), (2, .long b), (4, .long z9), (6, .long (kl_abs b)), (8, .int (nI 0))]) (show kl_abs a = (kl_gcd (kl_abs a) (kl_abs b) 0).1 from (by first | rfl | (simp only [kl_gcd]; done) | (simp only [kl_gcd]; rw [if_pos c_3, if_pos c_17])))) hl
      have hl := Eq.mp (congrArg (fun z9 => lv_has ls 11 [(0, .long a), (2, .long b), (4, .long ((kl_gcd (kl_abs a) (kl_abs b) 0).1)), (6, .long z9), (8, .int (nI 0))]) (show kl_abs b = (kl_gcd (kl_abs a) (kl_abs b) 0).2 from (by first | rfl | (simp only [kl_gcd]; done) | (simp only [kl_gcd]; rw [if_pos c_3, if_pos c_17])))) hl
      refine oo_loop (N := 100) (fun n H locs ls => va_P D vwCl ([]) H ∧ va_S (oo_N) s.heap H locs ∧ lv_has ls 11 [(0, .long a), (2, .long b), (4, .long ((kl_gcd (kl_abs a) (kl_abs b) n).1)), (6, .long ((kl_gcd (kl_abs a) (kl_abs b) n).2)), (8, .int (nI n))]) ?_ ?_ 0 (Nat.zero_le _) ⟨hP, hS, hl⟩
      · intro H locs ls hI
        obtain ⟨hP, hS, hl⟩ := hI
        refine lv_iload hx hb dX0_greatestDivisor_31 (lv_at hl 4 rfl) ?_
        refine lv_bipush (v := nI 100) hx hb dX0_greatestDivisor_33 (by decide) ?_
        refine lv_icmp_ge (tgt := 66) hx hb dX0_greatestDivisor_35 (by decide) (fun c_35 => ?_) (fun c_35 => ?_)
        · refine lv_lload hx hb dX0_greatestDivisor_66 (lv_at hl 2 rfl) ?_
          exact ro_retl hx hb hr hlocks hS rfl dX0_greatestDivisor_68
        · exact absurd (nI_le (Nat.le_refl _) (by omega)) c_35
      · intro n hltn ihn H locs ls hI
        obtain ⟨hP, hS, hl⟩ := hI
        refine lv_iload hx hb dX0_greatestDivisor_31 (lv_at hl 4 rfl) ?_
        refine lv_bipush (v := nI 100) hx hb dX0_greatestDivisor_33 (by decide) ?_
        refine lv_icmp_ge (tgt := 66) hx hb dX0_greatestDivisor_35 (by decide) (fun c_35 => ?_) (fun c_35 => ?_)
        · exact absurd c_35 (nI_ge hltn (by omega))
        · refine lv_lload hx hb dX0_greatestDivisor_38 (lv_at hl 3 rfl) ?_
          refine lv_lconst (v := (0 : Int64)) hx hb dX0_greatestDivisor_40 (by decide) ?_
          refine W.lcmp hx hb dX0_greatestDivisor_41 ?_
          refine lv_if_eq (tgt := 66) hx hb dX0_greatestDivisor_42 (by decide) (fun c_42 => ?_) (fun c_42 => ?_)
          · refine lv_lload hx hb dX0_greatestDivisor_66 (lv_at hl 2 rfl) ?_
            exact ro_retl hx hb hr hlocks hS (congrArg Prod.fst (kl_gcd_stop c_42 100 (by omega)).symm) dX0_greatestDivisor_68
          · refine lv_lload hx hb dX0_greatestDivisor_45 (lv_at hl 2 rfl) ?_
            refine lv_lload hx hb dX0_greatestDivisor_47 (lv_at hl 3 rfl) ?_
            refine lv_lrem hx hb dX0_greatestDivisor_49 (oo_nz2 c_42) ?_
            refine lv_lstore (lv' := [(9, .long (((kl_gcd (kl_abs a) (kl_abs b) n).1) - ((kl_gcd (kl_abs a) (kl_abs b) n).1) / ((kl_gcd (kl_abs a) (kl_abs b) n).2) * ((kl_gcd (kl_abs a) (kl_abs b) n).2))), (0, .long a), (2, .long b), (4, .long ((kl_gcd (kl_abs a) (kl_abs b) n).1)), (6, .long ((kl_gcd (kl_abs a) (kl_abs b) n).2)), (8, .int (nI n))]) hx hb dX0_greatestDivisor_50 hl (by decide) rfl (fun ls hl => ?_)
            refine lv_lload hx hb dX0_greatestDivisor_52 (lv_at hl 4 rfl) ?_
            refine lv_lstore (lv' := [(4, .long ((kl_gcd (kl_abs a) (kl_abs b) n).2)), (9, .long (((kl_gcd (kl_abs a) (kl_abs b) n).1) - ((kl_gcd (kl_abs a) (kl_abs b) n).1) / ((kl_gcd (kl_abs a) (kl_abs b) n).2) * ((kl_gcd (kl_abs a) (kl_abs b) n).2))), (0, .long a), (2, .long b), (6, .long ((kl_gcd (kl_abs a) (kl_abs b) n).2)), (8, .int (nI n))]) hx hb dX0_greatestDivisor_54 hl (by decide) rfl (fun ls hl => ?_)
            refine lv_lload hx hb dX0_greatestDivisor_56 (lv_at hl 1 rfl) ?_
            refine lv_lstore (lv' := [(6, .long (((kl_gcd (kl_abs a) (kl_abs b) n).1) - ((kl_gcd (kl_abs a) (kl_abs b) n).1) / ((kl_gcd (kl_abs a) (kl_abs b) n).2) * ((kl_gcd (kl_abs a) (kl_abs b) n).2))), (4, .long ((kl_gcd (kl_abs a) (kl_abs b) n).2)), (9, .long (((kl_gcd (kl_abs a) (kl_abs b) n).1) - ((kl_gcd (kl_abs a) (kl_abs b) n).1) / ((kl_gcd (kl_abs a) (kl_abs b) n).2) * ((kl_gcd (kl_abs a) (kl_abs b) n).2))), (0, .long a), (2, .long b), (8, .int (nI n))]) hx hb dX0_greatestDivisor_58 hl (by decide) rfl (fun ls hl => ?_)
            refine lv_iinc (v := nI (n + 1)) (lv' := [(8, .int (nI (n + 1))), (6, .long (((kl_gcd (kl_abs a) (kl_abs b) n).1) - ((kl_gcd (kl_abs a) (kl_abs b) n).1) / ((kl_gcd (kl_abs a) (kl_abs b) n).2) * ((kl_gcd (kl_abs a) (kl_abs b) n).2))), (4, .long ((kl_gcd (kl_abs a) (kl_abs b) n).2)), (9, .long (((kl_gcd (kl_abs a) (kl_abs b) n).1) - ((kl_gcd (kl_abs a) (kl_abs b) n).1) / ((kl_gcd (kl_abs a) (kl_abs b) n).2) * ((kl_gcd (kl_abs a) (kl_abs b) n).2))), (0, .long a), (2, .long b)]) hx hb dX0_greatestDivisor_60 hl (k := 5) rfl (oo_inc n 1) (by decide) rfl (fun ls hl => ?_)
            refine lv_goto (tgt := 31) hx hb dX0_greatestDivisor_63 (by decide) ?_
            have hl : lv_has ls 11 [(0, .long a), (2, .long b), (4, .long ((kl_gcd (kl_abs a) (kl_abs b) n).2)), (6, .long (((kl_gcd (kl_abs a) (kl_abs b) n).1) - ((kl_gcd (kl_abs a) (kl_abs b) n).1) / ((kl_gcd (kl_abs a) (kl_abs b) n).2) * ((kl_gcd (kl_abs a) (kl_abs b) n).2))), (8, .int (nI (n + 1)))] := lv_sub hl [4, 5, 2, 1, 0] rfl
            have hl := Eq.mp (congrArg (fun z9 => lv_has ls 11 [(0, .long a), (2, .long b), (4, .long z9), (6, .long (((kl_gcd (kl_abs a) (kl_abs b) n).1) - ((kl_gcd (kl_abs a) (kl_abs b) n).1) / ((kl_gcd (kl_abs a) (kl_abs b) n).2) * ((kl_gcd (kl_abs a) (kl_abs b) n).2))), (8, .int (nI (n + 1)))]) (show (kl_gcd (kl_abs a) (kl_abs b) n).2 = (kl_gcd (kl_abs a) (kl_abs b) (n + 1)).1 from (by first | rfl | (simp only [kl_gcd]; done) | (simp only [kl_gcd]; rw [if_neg c_42])))) hl
            have hl := Eq.mp (congrArg (fun z9 => lv_has ls 11 [(0, .long a), (2, .long b), (4, .long ((kl_gcd (kl_abs a) (kl_abs b) (n + 1)).1)), (6, .long z9), (8, .int (nI (n + 1)))]) (show ((kl_gcd (kl_abs a) (kl_abs b) n).1) - ((kl_gcd (kl_abs a) (kl_abs b) n).1) / ((kl_gcd (kl_abs a) (kl_abs b) n).2) * ((kl_gcd (kl_abs a) (kl_abs b) n).2) = (kl_gcd (kl_abs a) (kl_abs b) (n + 1)).2 from (by first | rfl | (simp only [kl_gcd]; done) | (simp only [kl_gcd]; rw [if_neg c_42])))) hl
            exact ihn _ _ _ ⟨hP, hS, hl⟩
    · refine lv_lload_n hx hb dX0_greatestDivisor_20 rfl (lv_at hl 2 rfl) ?_
      refine lv_lneg hx hb dX0_greatestDivisor_21 ?_
      refine oo_topL (y := kl_abs b) (if_neg c_17).symm ?_
      refine lv_goto (tgt := 26) hx hb dX0_greatestDivisor_22 (by decide) ?_
      refine lv_lstore (lv' := [(6, .long (kl_abs b)), (4, .long (kl_abs a)), (0, .long a), (2, .long b)]) hx hb dX0_greatestDivisor_26 hl (by decide) rfl (fun ls hl => ?_)
      refine lv_iconst (v := nI 0) hx hb dX0_greatestDivisor_28 (by decide) ?_
      refine lv_istore (lv' := [(8, .int (nI 0)), (6, .long (kl_abs b)), (4, .long (kl_abs a)), (0, .long a), (2, .long b)]) hx hb dX0_greatestDivisor_29 hl (by decide) rfl (fun ls hl => ?_)
      have hl : lv_has ls 11 [(0, .long a), (2, .long b), (4, .long (kl_abs a)), (6, .long (kl_abs b)), (8, .int (nI 0))] := lv_sub hl [3, 4, 2, 1, 0] rfl
      have hl := Eq.mp (congrArg (fun z9 => lv_has ls 11 [(0, .long a), (2, .long b), (4, .long z9), (6, .long (kl_abs b)), (8, .int (nI 0))]) (show kl_abs a = (kl_gcd (kl_abs a) (kl_abs b) 0).1 from (by first | rfl | (simp only [kl_gcd]; done) | (simp only [kl_gcd]; rw [if_pos c_3, if_neg c_17])))) hl
      have hl := Eq.mp (congrArg (fun z9 => lv_has ls 11 [(0, .long a), (2, .long b), (4, .long ((kl_gcd (kl_abs a) (kl_abs b) 0).1)), (6, .long z9), (8, .int (nI 0))]) (show kl_abs b = (kl_gcd (kl_abs a) (kl_abs b) 0).2 from (by first | rfl | (simp only [kl_gcd]; done) | (simp only [kl_gcd]; rw [if_pos c_3, if_neg c_17])))) hl
      refine oo_loop (N := 100) (fun n H locs ls => va_P D vwCl ([]) H ∧ va_S (oo_N) s.heap H locs ∧ lv_has ls 11 [(0, .long a), (2, .long b), (4, .long ((kl_gcd (kl_abs a) (kl_abs b) n).1)), (6, .long ((kl_gcd (kl_abs a) (kl_abs b) n).2)), (8, .int (nI n))]) ?_ ?_ 0 (Nat.zero_le _) ⟨hP, hS, hl⟩
      · intro H locs ls hI
        obtain ⟨hP, hS, hl⟩ := hI
        refine lv_iload hx hb dX0_greatestDivisor_31 (lv_at hl 4 rfl) ?_
        refine lv_bipush (v := nI 100) hx hb dX0_greatestDivisor_33 (by decide) ?_
        refine lv_icmp_ge (tgt := 66) hx hb dX0_greatestDivisor_35 (by decide) (fun c_35 => ?_) (fun c_35 => ?_)
        · refine lv_lload hx hb dX0_greatestDivisor_66 (lv_at hl 2 rfl) ?_
          exact ro_retl hx hb hr hlocks hS rfl dX0_greatestDivisor_68
        · exact absurd (nI_le (Nat.le_refl _) (by omega)) c_35
      · intro n hltn ihn H locs ls hI
        obtain ⟨hP, hS, hl⟩ := hI
        refine lv_iload hx hb dX0_greatestDivisor_31 (lv_at hl 4 rfl) ?_
        refine lv_bipush (v := nI 100) hx hb dX0_greatestDivisor_33 (by decide) ?_
        refine lv_icmp_ge (tgt := 66) hx hb dX0_greatestDivisor_35 (by decide) (fun c_35 => ?_) (fun c_35 => ?_)
        · exact absurd c_35 (nI_ge hltn (by omega))
        · refine lv_lload hx hb dX0_greatestDivisor_38 (lv_at hl 3 rfl) ?_
          refine lv_lconst (v := (0 : Int64)) hx hb dX0_greatestDivisor_40 (by decide) ?_
          refine W.lcmp hx hb dX0_greatestDivisor_41 ?_
          refine lv_if_eq (tgt := 66) hx hb dX0_greatestDivisor_42 (by decide) (fun c_42 => ?_) (fun c_42 => ?_)
          · refine lv_lload hx hb dX0_greatestDivisor_66 (lv_at hl 2 rfl) ?_
            exact ro_retl hx hb hr hlocks hS (congrArg Prod.fst (kl_gcd_stop c_42 100 (by omega)).symm) dX0_greatestDivisor_68
          · refine lv_lload hx hb dX0_greatestDivisor_45 (lv_at hl 2 rfl) ?_
            refine lv_lload hx hb dX0_greatestDivisor_47 (lv_at hl 3 rfl) ?_
            refine lv_lrem hx hb dX0_greatestDivisor_49 (oo_nz2 c_42) ?_
            refine lv_lstore (lv' := [(9, .long (((kl_gcd (kl_abs a) (kl_abs b) n).1) - ((kl_gcd (kl_abs a) (kl_abs b) n).1) / ((kl_gcd (kl_abs a) (kl_abs b) n).2) * ((kl_gcd (kl_abs a) (kl_abs b) n).2))), (0, .long a), (2, .long b), (4, .long ((kl_gcd (kl_abs a) (kl_abs b) n).1)), (6, .long ((kl_gcd (kl_abs a) (kl_abs b) n).2)), (8, .int (nI n))]) hx hb dX0_greatestDivisor_50 hl (by decide) rfl (fun ls hl => ?_)
            refine lv_lload hx hb dX0_greatestDivisor_52 (lv_at hl 4 rfl) ?_
            refine lv_lstore (lv' := [(4, .long ((kl_gcd (kl_abs a) (kl_abs b) n).2)), (9, .long (((kl_gcd (kl_abs a) (kl_abs b) n).1) - ((kl_gcd (kl_abs a) (kl_abs b) n).1) / ((kl_gcd (kl_abs a) (kl_abs b) n).2) * ((kl_gcd (kl_abs a) (kl_abs b) n).2))), (0, .long a), (2, .long b), (6, .long ((kl_gcd (kl_abs a) (kl_abs b) n).2)), (8, .int (nI n))]) hx hb dX0_greatestDivisor_54 hl (by decide) rfl (fun ls hl => ?_)
            refine lv_lload hx hb dX0_greatestDivisor_56 (lv_at hl 1 rfl) ?_
            refine lv_lstore (lv' := [(6, .long (((kl_gcd (kl_abs a) (kl_abs b) n).1) - ((kl_gcd (kl_abs a) (kl_abs b) n).1) / ((kl_gcd (kl_abs a) (kl_abs b) n).2) * ((kl_gcd (kl_abs a) (kl_abs b) n).2))), (4, .long ((kl_gcd (kl_abs a) (kl_abs b) n).2)), (9, .long (((kl_gcd (kl_abs a) (kl_abs b) n).1) - ((kl_gcd (kl_abs a) (kl_abs b) n).1) / ((kl_gcd (kl_abs a) (kl_abs b) n).2) * ((kl_gcd (kl_abs a) (kl_abs b) n).2))), (0, .long a), (2, .long b), (8, .int (nI n))]) hx hb dX0_greatestDivisor_58 hl (by decide) rfl (fun ls hl => ?_)
            refine lv_iinc (v := nI (n + 1)) (lv' := [(8, .int (nI (n + 1))), (6, .long (((kl_gcd (kl_abs a) (kl_abs b) n).1) - ((kl_gcd (kl_abs a) (kl_abs b) n).1) / ((kl_gcd (kl_abs a) (kl_abs b) n).2) * ((kl_gcd (kl_abs a) (kl_abs b) n).2))), (4, .long ((kl_gcd (kl_abs a) (kl_abs b) n).2)), (9, .long (((kl_gcd (kl_abs a) (kl_abs b) n).1) - ((kl_gcd (kl_abs a) (kl_abs b) n).1) / ((kl_gcd (kl_abs a) (kl_abs b) n).2) * ((kl_gcd (kl_abs a) (kl_abs b) n).2))), (0, .long a), (2, .long b)]) hx hb dX0_greatestDivisor_60 hl (k := 5) rfl (oo_inc n 1) (by decide) rfl (fun ls hl => ?_)
            refine lv_goto (tgt := 31) hx hb dX0_greatestDivisor_63 (by decide) ?_
            have hl : lv_has ls 11 [(0, .long a), (2, .long b), (4, .long ((kl_gcd (kl_abs a) (kl_abs b) n).2)), (6, .long (((kl_gcd (kl_abs a) (kl_abs b) n).1) - ((kl_gcd (kl_abs a) (kl_abs b) n).1) / ((kl_gcd (kl_abs a) (kl_abs b) n).2) * ((kl_gcd (kl_abs a) (kl_abs b) n).2))), (8, .int (nI (n + 1)))] := lv_sub hl [4, 5, 2, 1, 0] rfl
            have hl := Eq.mp (congrArg (fun z9 => lv_has ls 11 [(0, .long a), (2, .long b), (4, .long z9), (6, .long (((kl_gcd (kl_abs a) (kl_abs b) n).1) - ((kl_gcd (kl_abs a) (kl_abs b) n).1) / ((kl_gcd (kl_abs a) (kl_abs b) n).2) * ((kl_gcd (kl_abs a) (kl_abs b) n).2))), (8, .int (nI (n + 1)))]) (show (kl_gcd (kl_abs a) (kl_abs b) n).2 = (kl_gcd (kl_abs a) (kl_abs b) (n + 1)).1 from (by first | rfl | (simp only [kl_gcd]; done) | (simp only [kl_gcd]; rw [if_neg c_42])))) hl
            have hl := Eq.mp (congrArg (fun z9 => lv_has ls 11 [(0, .long a), (2, .long b), (4, .long ((kl_gcd (kl_abs a) (kl_abs b) (n + 1)).1)), (6, .long z9), (8, .int (nI (n + 1)))]) (show ((kl_gcd (kl_abs a) (kl_abs b) n).1) - ((kl_gcd (kl_abs a) (kl_abs b) n).1) / ((kl_gcd (kl_abs a) (kl_abs b) n).2) * ((kl_gcd (kl_abs a) (kl_abs b) n).2) = (kl_gcd (kl_abs a) (kl_abs b) (n + 1)).2 from (by first | rfl | (simp only [kl_gcd]; done) | (simp only [kl_gcd]; rw [if_neg c_42])))) hl
            exact ihn _ _ _ ⟨hP, hS, hl⟩
  · refine lv_lload_n hx hb dX0_greatestDivisor_6 rfl (lv_at hl 0 rfl) ?_
    refine lv_lneg hx hb dX0_greatestDivisor_7 ?_
    refine oo_topL (y := kl_abs a) (if_neg c_3).symm ?_
    refine lv_goto (tgt := 12) hx hb dX0_greatestDivisor_8 (by decide) ?_
    refine lv_lstore (lv' := [(4, .long (kl_abs a)), (0, .long a), (2, .long b)]) hx hb dX0_greatestDivisor_12 hl (by decide) rfl (fun ls hl => ?_)
    refine lv_lload_n hx hb dX0_greatestDivisor_14 rfl (lv_at hl 2 rfl) ?_
    refine lv_lconst (v := (0 : Int64)) hx hb dX0_greatestDivisor_15 (by decide) ?_
    refine W.lcmp hx hb dX0_greatestDivisor_16 ?_
    refine lv_if_ge (tgt := 25) hx hb dX0_greatestDivisor_17 (by decide) (fun c_17 => ?_) (fun c_17 => ?_)
    · refine lv_lload_n hx hb dX0_greatestDivisor_25 rfl (lv_at hl 2 rfl) ?_
      refine oo_topL (y := kl_abs b) (if_pos c_17).symm ?_
      refine lv_lstore (lv' := [(6, .long (kl_abs b)), (4, .long (kl_abs a)), (0, .long a), (2, .long b)]) hx hb dX0_greatestDivisor_26 hl (by decide) rfl (fun ls hl => ?_)
      refine lv_iconst (v := nI 0) hx hb dX0_greatestDivisor_28 (by decide) ?_
      refine lv_istore (lv' := [(8, .int (nI 0)), (6, .long (kl_abs b)), (4, .long (kl_abs a)), (0, .long a), (2, .long b)]) hx hb dX0_greatestDivisor_29 hl (by decide) rfl (fun ls hl => ?_)
      have hl : lv_has ls 11 [(0, .long a), (2, .long b), (4, .long (kl_abs a)), (6, .long (kl_abs b)), (8, .int (nI 0))] := lv_sub hl [3, 4, 2, 1, 0] rfl
      have hl := Eq.mp (congrArg (fun z9 => lv_has ls 11 [(0, .long a), (2, .long b), (4, .long z9), (6, .long (kl_abs b)), (8, .int (nI 0))]) (show kl_abs a = (kl_gcd (kl_abs a) (kl_abs b) 0).1 from (by first | rfl | (simp only [kl_gcd]; done) | (simp only [kl_gcd]; rw [if_neg c_3, if_pos c_17])))) hl
      have hl := Eq.mp (congrArg (fun z9 => lv_has ls 11 [(0, .long a), (2, .long b), (4, .long ((kl_gcd (kl_abs a) (kl_abs b) 0).1)), (6, .long z9), (8, .int (nI 0))]) (show kl_abs b = (kl_gcd (kl_abs a) (kl_abs b) 0).2 from (by first | rfl | (simp only [kl_gcd]; done) | (simp only [kl_gcd]; rw [if_neg c_3, if_pos c_17])))) hl
      refine oo_loop (N := 100) (fun n H locs ls => va_P D vwCl ([]) H ∧ va_S (oo_N) s.heap H locs ∧ lv_has ls 11 [(0, .long a), (2, .long b), (4, .long ((kl_gcd (kl_abs a) (kl_abs b) n).1)), (6, .long ((kl_gcd (kl_abs a) (kl_abs b) n).2)), (8, .int (nI n))]) ?_ ?_ 0 (Nat.zero_le _) ⟨hP, hS, hl⟩
      · intro H locs ls hI
        obtain ⟨hP, hS, hl⟩ := hI
        refine lv_iload hx hb dX0_greatestDivisor_31 (lv_at hl 4 rfl) ?_
        refine lv_bipush (v := nI 100) hx hb dX0_greatestDivisor_33 (by decide) ?_
        refine lv_icmp_ge (tgt := 66) hx hb dX0_greatestDivisor_35 (by decide) (fun c_35 => ?_) (fun c_35 => ?_)
        · refine lv_lload hx hb dX0_greatestDivisor_66 (lv_at hl 2 rfl) ?_
          exact ro_retl hx hb hr hlocks hS rfl dX0_greatestDivisor_68
        · exact absurd (nI_le (Nat.le_refl _) (by omega)) c_35
      · intro n hltn ihn H locs ls hI
        obtain ⟨hP, hS, hl⟩ := hI
        refine lv_iload hx hb dX0_greatestDivisor_31 (lv_at hl 4 rfl) ?_
        refine lv_bipush (v := nI 100) hx hb dX0_greatestDivisor_33 (by decide) ?_
        refine lv_icmp_ge (tgt := 66) hx hb dX0_greatestDivisor_35 (by decide) (fun c_35 => ?_) (fun c_35 => ?_)
        · exact absurd c_35 (nI_ge hltn (by omega))
        · refine lv_lload hx hb dX0_greatestDivisor_38 (lv_at hl 3 rfl) ?_
          refine lv_lconst (v := (0 : Int64)) hx hb dX0_greatestDivisor_40 (by decide) ?_
          refine W.lcmp hx hb dX0_greatestDivisor_41 ?_
          refine lv_if_eq (tgt := 66) hx hb dX0_greatestDivisor_42 (by decide) (fun c_42 => ?_) (fun c_42 => ?_)
          · refine lv_lload hx hb dX0_greatestDivisor_66 (lv_at hl 2 rfl) ?_
            exact ro_retl hx hb hr hlocks hS (congrArg Prod.fst (kl_gcd_stop c_42 100 (by omega)).symm) dX0_greatestDivisor_68
          · refine lv_lload hx hb dX0_greatestDivisor_45 (lv_at hl 2 rfl) ?_
            refine lv_lload hx hb dX0_greatestDivisor_47 (lv_at hl 3 rfl) ?_
            refine lv_lrem hx hb dX0_greatestDivisor_49 (oo_nz2 c_42) ?_
            refine lv_lstore (lv' := [(9, .long (((kl_gcd (kl_abs a) (kl_abs b) n).1) - ((kl_gcd (kl_abs a) (kl_abs b) n).1) / ((kl_gcd (kl_abs a) (kl_abs b) n).2) * ((kl_gcd (kl_abs a) (kl_abs b) n).2))), (0, .long a), (2, .long b), (4, .long ((kl_gcd (kl_abs a) (kl_abs b) n).1)), (6, .long ((kl_gcd (kl_abs a) (kl_abs b) n).2)), (8, .int (nI n))]) hx hb dX0_greatestDivisor_50 hl (by decide) rfl (fun ls hl => ?_)
            refine lv_lload hx hb dX0_greatestDivisor_52 (lv_at hl 4 rfl) ?_
            refine lv_lstore (lv' := [(4, .long ((kl_gcd (kl_abs a) (kl_abs b) n).2)), (9, .long (((kl_gcd (kl_abs a) (kl_abs b) n).1) - ((kl_gcd (kl_abs a) (kl_abs b) n).1) / ((kl_gcd (kl_abs a) (kl_abs b) n).2) * ((kl_gcd (kl_abs a) (kl_abs b) n).2))), (0, .long a), (2, .long b), (6, .long ((kl_gcd (kl_abs a) (kl_abs b) n).2)), (8, .int (nI n))]) hx hb dX0_greatestDivisor_54 hl (by decide) rfl (fun ls hl => ?_)
            refine lv_lload hx hb dX0_greatestDivisor_56 (lv_at hl 1 rfl) ?_
            refine lv_lstore (lv' := [(6, .long (((kl_gcd (kl_abs a) (kl_abs b) n).1) - ((kl_gcd (kl_abs a) (kl_abs b) n).1) / ((kl_gcd (kl_abs a) (kl_abs b) n).2) * ((kl_gcd (kl_abs a) (kl_abs b) n).2))), (4, .long ((kl_gcd (kl_abs a) (kl_abs b) n).2)), (9, .long (((kl_gcd (kl_abs a) (kl_abs b) n).1) - ((kl_gcd (kl_abs a) (kl_abs b) n).1) / ((kl_gcd (kl_abs a) (kl_abs b) n).2) * ((kl_gcd (kl_abs a) (kl_abs b) n).2))), (0, .long a), (2, .long b), (8, .int (nI n))]) hx hb dX0_greatestDivisor_58 hl (by decide) rfl (fun ls hl => ?_)
            refine lv_iinc (v := nI (n + 1)) (lv' := [(8, .int (nI (n + 1))), (6, .long (((kl_gcd (kl_abs a) (kl_abs b) n).1) - ((kl_gcd (kl_abs a) (kl_abs b) n).1) / ((kl_gcd (kl_abs a) (kl_abs b) n).2) * ((kl_gcd (kl_abs a) (kl_abs b) n).2))), (4, .long ((kl_gcd (kl_abs a) (kl_abs b) n).2)), (9, .long (((kl_gcd (kl_abs a) (kl_abs b) n).1) - ((kl_gcd (kl_abs a) (kl_abs b) n).1) / ((kl_gcd (kl_abs a) (kl_abs b) n).2) * ((kl_gcd (kl_abs a) (kl_abs b) n).2))), (0, .long a), (2, .long b)]) hx hb dX0_greatestDivisor_60 hl (k := 5) rfl (oo_inc n 1) (by decide) rfl (fun ls hl => ?_)
            refine lv_goto (tgt := 31) hx hb dX0_greatestDivisor_63 (by decide) ?_
            have hl : lv_has ls 11 [(0, .long a), (2, .long b), (4, .long ((kl_gcd (kl_abs a) (kl_abs b) n).2)), (6, .long (((kl_gcd (kl_abs a) (kl_abs b) n).1) - ((kl_gcd (kl_abs a) (kl_abs b) n).1) / ((kl_gcd (kl_abs a) (kl_abs b) n).2) * ((kl_gcd (kl_abs a) (kl_abs b) n).2))), (8, .int (nI (n + 1)))] := lv_sub hl [4, 5, 2, 1, 0] rfl
            have hl := Eq.mp (congrArg (fun z9 => lv_has ls 11 [(0, .long a), (2, .long b), (4, .long z9), (6, .long (((kl_gcd (kl_abs a) (kl_abs b) n).1) - ((kl_gcd (kl_abs a) (kl_abs b) n).1) / ((kl_gcd (kl_abs a) (kl_abs b) n).2) * ((kl_gcd (kl_abs a) (kl_abs b) n).2))), (8, .int (nI (n + 1)))]) (show (kl_gcd (kl_abs a) (kl_abs b) n).2 = (kl_gcd (kl_abs a) (kl_abs b) (n + 1)).1 from (by first | rfl | (simp only [kl_gcd]; done) | (simp only [kl_gcd]; rw [if_neg c_42])))) hl
            have hl := Eq.mp (congrArg (fun z9 => lv_has ls 11 [(0, .long a), (2, .long b), (4, .long ((kl_gcd (kl_abs a) (kl_abs b) (n + 1)).1)), (6, .long z9), (8, .int (nI (n + 1)))]) (show ((kl_gcd (kl_abs a) (kl_abs b) n).1) - ((kl_gcd (kl_abs a) (kl_abs b) n).1) / ((kl_gcd (kl_abs a) (kl_abs b) n).2) * ((kl_gcd (kl_abs a) (kl_abs b) n).2) = (kl_gcd (kl_abs a) (kl_abs b) (n + 1)).2 from (by first | rfl | (simp only [kl_gcd]; done) | (simp only [kl_gcd]; rw [if_neg c_42])))) hl
            exact ihn _ _ _ ⟨hP, hS, hl⟩
    · refine lv_lload_n hx hb dX0_greatestDivisor_20 rfl (lv_at hl 2 rfl) ?_
      refine lv_lneg hx hb dX0_greatestDivisor_21 ?_
      refine oo_topL (y := kl_abs b) (if_neg c_17).symm ?_
      refine lv_goto (tgt := 26) hx hb dX0_greatestDivisor_22 (by decide) ?_
      refine lv_lstore (lv' := [(6, .long (kl_abs b)), (4, .long (kl_abs a)), (0, .long a), (2, .long b)]) hx hb dX0_greatestDivisor_26 hl (by decide) rfl (fun ls hl => ?_)
      refine lv_iconst (v := nI 0) hx hb dX0_greatestDivisor_28 (by decide) ?_
      refine lv_istore (lv' := [(8, .int (nI 0)), (6, .long (kl_abs b)), (4, .long (kl_abs a)), (0, .long a), (2, .long b)]) hx hb dX0_greatestDivisor_29 hl (by decide) rfl (fun ls hl => ?_)
      have hl : lv_has ls 11 [(0, .long a), (2, .long b), (4, .long (kl_abs a)), (6, .long (kl_abs b)), (8, .int (nI 0))] := lv_sub hl [3, 4, 2, 1, 0] rfl
      have hl := Eq.mp (congrArg (fun z9 => lv_has ls 11 [(0, .long a), (2, .long b), (4, .long z9), (6, .long (kl_abs b)), (8, .int (nI 0))]) (show kl_abs a = (kl_gcd (kl_abs a) (kl_abs b) 0).1 from (by first | rfl | (simp only [kl_gcd]; done) | (simp only [kl_gcd]; rw [if_neg c_3, if_neg c_17])))) hl
      have hl := Eq.mp (congrArg (fun z9 => lv_has ls 11 [(0, .long a), (2, .long b), (4, .long ((kl_gcd (kl_abs a) (kl_abs b) 0).1)), (6, .long z9), (8, .int (nI 0))]) (show kl_abs b = (kl_gcd (kl_abs a) (kl_abs b) 0).2 from (by first | rfl | (simp only [kl_gcd]; done) | (simp only [kl_gcd]; rw [if_neg c_3, if_neg c_17])))) hl
      refine oo_loop (N := 100) (fun n H locs ls => va_P D vwCl ([]) H ∧ va_S (oo_N) s.heap H locs ∧ lv_has ls 11 [(0, .long a), (2, .long b), (4, .long ((kl_gcd (kl_abs a) (kl_abs b) n).1)), (6, .long ((kl_gcd (kl_abs a) (kl_abs b) n).2)), (8, .int (nI n))]) ?_ ?_ 0 (Nat.zero_le _) ⟨hP, hS, hl⟩
      · intro H locs ls hI
        obtain ⟨hP, hS, hl⟩ := hI
        refine lv_iload hx hb dX0_greatestDivisor_31 (lv_at hl 4 rfl) ?_
        refine lv_bipush (v := nI 100) hx hb dX0_greatestDivisor_33 (by decide) ?_
        refine lv_icmp_ge (tgt := 66) hx hb dX0_greatestDivisor_35 (by decide) (fun c_35 => ?_) (fun c_35 => ?_)
        · refine lv_lload hx hb dX0_greatestDivisor_66 (lv_at hl 2 rfl) ?_
          exact ro_retl hx hb hr hlocks hS rfl dX0_greatestDivisor_68
        · exact absurd (nI_le (Nat.le_refl _) (by omega)) c_35
      · intro n hltn ihn H locs ls hI
        obtain ⟨hP, hS, hl⟩ := hI
        refine lv_iload hx hb dX0_greatestDivisor_31 (lv_at hl 4 rfl) ?_
        refine lv_bipush (v := nI 100) hx hb dX0_greatestDivisor_33 (by decide) ?_
        refine lv_icmp_ge (tgt := 66) hx hb dX0_greatestDivisor_35 (by decide) (fun c_35 => ?_) (fun c_35 => ?_)
        · exact absurd c_35 (nI_ge hltn (by omega))
        · refine lv_lload hx hb dX0_greatestDivisor_38 (lv_at hl 3 rfl) ?_
          refine lv_lconst (v := (0 : Int64)) hx hb dX0_greatestDivisor_40 (by decide) ?_
          refine W.lcmp hx hb dX0_greatestDivisor_41 ?_
          refine lv_if_eq (tgt := 66) hx hb dX0_greatestDivisor_42 (by decide) (fun c_42 => ?_) (fun c_42 => ?_)
          · refine lv_lload hx hb dX0_greatestDivisor_66 (lv_at hl 2 rfl) ?_
            exact ro_retl hx hb hr hlocks hS (congrArg Prod.fst (kl_gcd_stop c_42 100 (by omega)).symm) dX0_greatestDivisor_68
          · refine lv_lload hx hb dX0_greatestDivisor_45 (lv_at hl 2 rfl) ?_
            refine lv_lload hx hb dX0_greatestDivisor_47 (lv_at hl 3 rfl) ?_
            refine lv_lrem hx hb dX0_greatestDivisor_49 (oo_nz2 c_42) ?_
            refine lv_lstore (lv' := [(9, .long (((kl_gcd (kl_abs a) (kl_abs b) n).1) - ((kl_gcd (kl_abs a) (kl_abs b) n).1) / ((kl_gcd (kl_abs a) (kl_abs b) n).2) * ((kl_gcd (kl_abs a) (kl_abs b) n).2))), (0, .long a), (2, .long b), (4, .long ((kl_gcd (kl_abs a) (kl_abs b) n).1)), (6, .long ((kl_gcd (kl_abs a) (kl_abs b) n).2)), (8, .int (nI n))]) hx hb dX0_greatestDivisor_50 hl (by decide) rfl (fun ls hl => ?_)
            refine lv_lload hx hb dX0_greatestDivisor_52 (lv_at hl 4 rfl) ?_
            refine lv_lstore (lv' := [(4, .long ((kl_gcd (kl_abs a) (kl_abs b) n).2)), (9, .long (((kl_gcd (kl_abs a) (kl_abs b) n).1) - ((kl_gcd (kl_abs a) (kl_abs b) n).1) / ((kl_gcd (kl_abs a) (kl_abs b) n).2) * ((kl_gcd (kl_abs a) (kl_abs b) n).2))), (0, .long a), (2, .long b), (6, .long ((kl_gcd (kl_abs a) (kl_abs b) n).2)), (8, .int (nI n))]) hx hb dX0_greatestDivisor_54 hl (by decide) rfl (fun ls hl => ?_)
            refine lv_lload hx hb dX0_greatestDivisor_56 (lv_at hl 1 rfl) ?_
            refine lv_lstore (lv' := [(6, .long (((kl_gcd (kl_abs a) (kl_abs b) n).1) - ((kl_gcd (kl_abs a) (kl_abs b) n).1) / ((kl_gcd (kl_abs a) (kl_abs b) n).2) * ((kl_gcd (kl_abs a) (kl_abs b) n).2))), (4, .long ((kl_gcd (kl_abs a) (kl_abs b) n).2)), (9, .long (((kl_gcd (kl_abs a) (kl_abs b) n).1) - ((kl_gcd (kl_abs a) (kl_abs b) n).1) / ((kl_gcd (kl_abs a) (kl_abs b) n).2) * ((kl_gcd (kl_abs a) (kl_abs b) n).2))), (0, .long a), (2, .long b), (8, .int (nI n))]) hx hb dX0_greatestDivisor_58 hl (by decide) rfl (fun ls hl => ?_)
            refine lv_iinc (v := nI (n + 1)) (lv' := [(8, .int (nI (n + 1))), (6, .long (((kl_gcd (kl_abs a) (kl_abs b) n).1) - ((kl_gcd (kl_abs a) (kl_abs b) n).1) / ((kl_gcd (kl_abs a) (kl_abs b) n).2) * ((kl_gcd (kl_abs a) (kl_abs b) n).2))), (4, .long ((kl_gcd (kl_abs a) (kl_abs b) n).2)), (9, .long (((kl_gcd (kl_abs a) (kl_abs b) n).1) - ((kl_gcd (kl_abs a) (kl_abs b) n).1) / ((kl_gcd (kl_abs a) (kl_abs b) n).2) * ((kl_gcd (kl_abs a) (kl_abs b) n).2))), (0, .long a), (2, .long b)]) hx hb dX0_greatestDivisor_60 hl (k := 5) rfl (oo_inc n 1) (by decide) rfl (fun ls hl => ?_)
            refine lv_goto (tgt := 31) hx hb dX0_greatestDivisor_63 (by decide) ?_
            have hl : lv_has ls 11 [(0, .long a), (2, .long b), (4, .long ((kl_gcd (kl_abs a) (kl_abs b) n).2)), (6, .long (((kl_gcd (kl_abs a) (kl_abs b) n).1) - ((kl_gcd (kl_abs a) (kl_abs b) n).1) / ((kl_gcd (kl_abs a) (kl_abs b) n).2) * ((kl_gcd (kl_abs a) (kl_abs b) n).2))), (8, .int (nI (n + 1)))] := lv_sub hl [4, 5, 2, 1, 0] rfl
            have hl := Eq.mp (congrArg (fun z9 => lv_has ls 11 [(0, .long a), (2, .long b), (4, .long z9), (6, .long (((kl_gcd (kl_abs a) (kl_abs b) n).1) - ((kl_gcd (kl_abs a) (kl_abs b) n).1) / ((kl_gcd (kl_abs a) (kl_abs b) n).2) * ((kl_gcd (kl_abs a) (kl_abs b) n).2))), (8, .int (nI (n + 1)))]) (show (kl_gcd (kl_abs a) (kl_abs b) n).2 = (kl_gcd (kl_abs a) (kl_abs b) (n + 1)).1 from (by first | rfl | (simp only [kl_gcd]; done) | (simp only [kl_gcd]; rw [if_neg c_42])))) hl
            have hl := Eq.mp (congrArg (fun z9 => lv_has ls 11 [(0, .long a), (2, .long b), (4, .long ((kl_gcd (kl_abs a) (kl_abs b) (n + 1)).1)), (6, .long z9), (8, .int (nI (n + 1)))]) (show ((kl_gcd (kl_abs a) (kl_abs b) n).1) - ((kl_gcd (kl_abs a) (kl_abs b) n).1) / ((kl_gcd (kl_abs a) (kl_abs b) n).2) * ((kl_gcd (kl_abs a) (kl_abs b) n).2) = (kl_gcd (kl_abs a) (kl_abs b) (n + 1)).2 from (by first | rfl | (simp only [kl_gcd]; done) | (simp only [kl_gcd]; rw [if_neg c_42])))) hl
            exact ihn _ _ _ ⟨hP, hS, hl⟩
theorem ok_X0_lowestPart : yX0_lowestPart.cls ≠ "java/lang/invoke/MethodHandle" ∧ yX0_lowestPart.cls ≠ "java/lang/invoke/VarHandle" ∧ (parseMethodDescriptor yX0_lowestPart.desc).map (fun d => d.parameters.length) = some 3 := by decide +kernel
def kvX0_lowestPart (a : Int64) (b : Int64) (pt : Int32) : Int64 := if (lg_cmp ((kl_gcd (kl_abs a) (kl_abs b) 100).1) (0 : Int64)) = 0 then (0 : Int64) else (if pt = 0 then (a / ((kl_gcd (kl_abs a) (kl_abs b) 100).1)) else (b / ((kl_gcd (kl_abs a) (kl_abs b) 100).1)))
set_option maxHeartbeats 4000000 in
set_option maxRecDepth 100000 in
theorem kX0_lowestPart (l : Launch) (D : va_G) (a : Int64) (b : Int64) (pt : Int32) : RoL l yX0_lowestPart wsX0_lowestPart ({ frames := 1, cells := 0, slots := 0, locals := 30 } : Room) [.long a, .long b, .int pt] D ([]) [] (kvX0_lowestPart a b pt) := by
  refine oo_head (C := RX0) (cc := cX0_lowestPart) (maxL := 7) (ret := (some .long)) (by decide) rfl rfl (Nat.le_of_ble_eq_true rfl) ?_
  intro p e s m below meth c hx hb hr hlocks hml hown hnm hts hpre ls hl
  have hl : lv_has ls 7 [(0, .long a), (2, .long b), (4, .int pt)] := hl
  obtain ⟨hP, hK⟩ := hpre
  have hS : va_S oo_N s.heap s.heap [] := va_S.rf
  refine lv_lload_n hx hb dX0_lowestPart_0 rfl (lv_at hl 0 rfl) ?_
  refine lv_lload_n hx hb dX0_lowestPart_1 rfl (lv_at hl 1 rfl) ?_
  refine ro_calll (va_runS (As := [.long a, .long b]) (rest := []) ⟨hx, hb, hml, hown, hts⟩ (kX0_greatestDivisor l D a b) (va_cwS 2 hts gX0_lowestPart_X0_greatestDivisor rfl rfl rfl ok_X0_greatestDivisor ⟨Nat.le_of_ble_eq_true rfl, Nat.le_of_ble_eq_true rfl⟩) ⟨oo_blind, oo_ps hP hK [] rfl [] rfl⟩ rfl rfl hl.1 rfl (lv_room (Nat.le_of_ble_eq_true rfl)) dX0_lowestPart_2 ⟨Nat.le_of_ble_eq_true rfl, Nat.le_of_ble_eq_true rfl⟩) hP hS (fun H locs hP hS => ?_)
  refine lv_lstore (lv' := [(5, .long ((kl_gcd (kl_abs a) (kl_abs b) 100).1)), (0, .long a), (2, .long b), (4, .int pt)]) hx hb dX0_lowestPart_5 hl (by decide) rfl (fun ls hl => ?_)
  refine lv_lload hx hb dX0_lowestPart_7 (lv_at hl 0 rfl) ?_
  refine lv_lconst (v := (0 : Int64)) hx hb dX0_lowestPart_9 (by decide) ?_
  refine W.lcmp hx hb dX0_lowestPart_10 ?_
  refine lv_if_ne (tgt := 16) hx hb dX0_lowestPart_11 (by decide) (fun c_11 => ?_) (fun c_11 => ?_)
  · refine lv_iload hx hb dX0_lowestPart_16 (lv_at hl 3 rfl) ?_
    refine lv_if_ne (tgt := 25) hx hb dX0_lowestPart_18 (by decide) (fun c_18 => ?_) (fun c_18 => ?_)
    · refine lv_lload_n hx hb dX0_lowestPart_25 rfl (lv_at hl 2 rfl) ?_
      refine lv_lload hx hb dX0_lowestPart_26 (lv_at hl 0 rfl) ?_
      refine lv_ldiv hx hb dX0_lowestPart_28 (oo_nz2 c_11) ?_
      exact ro_retl hx hb hr hlocks hS (by unfold kvX0_lowestPart; rw [if_neg c_11, if_neg c_18]) dX0_lowestPart_29
    · refine lv_lload_n hx hb dX0_lowestPart_21 rfl (lv_at hl 1 rfl) ?_
      refine lv_goto (tgt := 26) hx hb dX0_lowestPart_22 (by decide) ?_
      refine lv_lload hx hb dX0_lowestPart_26 (lv_at hl 0 rfl) ?_
      refine lv_ldiv hx hb dX0_lowestPart_28 (oo_nz2 c_11) ?_
      exact ro_retl hx hb hr hlocks hS (by unfold kvX0_lowestPart; rw [if_neg c_11, if_pos c_18]) dX0_lowestPart_29
  · refine lv_lconst (v := (0 : Int64)) hx hb dX0_lowestPart_14 (by decide) ?_
    exact ro_retl hx hb hr hlocks hS (by unfold kvX0_lowestPart; rw [if_pos c_11]) dX0_lowestPart_15
