theorem oo_loopC {p : Program} {l : Launch} {e : Env} {R : Room} {s : State} {m : MethodId} {args : Array Value} {below : List Frame} {meth : Method} {c : Code} {H : Heap} {locs : List Loc} {Q : State → Prop} {pc : Nat} {ls : Array Slot} {st : List Value} {N : Nat} (cf sf : Nat → Nat)
    (Inv : Nat → Heap → List Loc → Array Slot → Prop) (ex : ∀ (H : Heap) (locs : List Loc) (ls : Array Slot), Inv N H locs ls → W p l e R s m args below meth c H locs (cf N) (sf N) Q (F0 m pc ls st))
    (step : ∀ n : Nat, n < N → (∀ (H : Heap) (locs : List Loc) (ls : Array Slot), Inv (n + 1) H locs ls → W p l e R s m args below meth c H locs (cf (n + 1)) (sf (n + 1)) Q (F0 m pc ls st)) → ∀ (H : Heap) (locs : List Loc) (ls : Array Slot), Inv n H locs ls → W p l e R s m args below meth c H locs (cf n) (sf n) Q (F0 m pc ls st))
    (n0 : Nat) (hn : n0 ≤ N) (h0 : Inv n0 H locs ls) : W p l e R s m args below meth c H locs (cf n0) (sf n0) Q (F0 m pc ls st) := by
  have h : ∀ (k n : Nat), n ≤ N → N - n ≤ k → ∀ (H : Heap) (locs : List Loc) (ls : Array Slot), Inv n H locs ls → W p l e R s m args below meth c H locs (cf n) (sf n) Q (F0 m pc ls st) := by
    intro k
    induction k with
    | zero =>
      intro n h1 h2 H locs ls hI
      obtain rfl : n = N := by omega
      exact ex H locs ls hI
    | succ k ih =>
      intro n h1 h2 H locs ls hI
      by_cases h3 : n = N
      · subst h3; exact ex H locs ls hI
      · exact step n (by omega) (fun H locs ls hI => ih (n + 1) (by omega) (by omega) H locs ls hI) H locs ls hI
  exact h (N - n0) n0 hn (Nat.le_refl _) H locs ls h0
/-- the loop's state -/
def lw_I (s : State) (D : va_G) (cI cJ cZ : ClassId) (h a1 a2 a3 a4 a5 hm b1 b2 b3 o b : Nat) (n : Nat) (H : Heap) (locs : List Loc) (ls : Array Slot) : Prop :=
  ∃ (u d lw uw an : Nat → Int64) (mu md tr : Nat → Int32) (fn qn : Nat) (sd : Int64) (th : Int32) (f : Nat → Int64), rl fn qn u d lw uw an mu md tr ∧ va_P D vwCl (lW cI cJ cZ h a1 a2 a3 a4 a5 hm b1 b2 b3 o u d lw uw an (nI fn) (nI qn) sd mu md tr (nI fn) (nI qn) sd th f) H ∧ va_D (fun q : Nat => s.heap.size ≤ q) (lW cI cJ cZ h a1 a2 a3 a4 a5 hm b1 b2 b3 o u d lw uw an (nI fn) (nI qn) sd mu md tr (nI fn) (nI qn) sd th f) ∧ va_S (fun q : Nat => s.heap.size ≤ q) s.heap H locs ∧ lv_has ls 9 [(0, .ref b), (1, .ref h), (2, .ref hm), (3, .ref o), (4, .int (nI (5 * n)))]
set_option maxHeartbeats 4000000 in
set_option maxRecDepth 100000 in
theorem lw_step {p : Program} {l : Launch} {e : Env} {s : State} {m : MethodId} {below : List Frame} {meth : Method} {c : Code} {b L : Nat} {xs : Nat → Int32} {D : va_G} {cI cJ cZ : ClassId} {h a1 a2 a3 a4 a5 hm b1 b2 b3 o t sa : Nat} {Q : State → Prop} (hL : L ≤ 2560) (C0 : lw_Cx p l s m meth c b L xs D cI cJ cZ t sa) {cells slots : Nat} (n : Nat) (hn : 5 * n + 5 ≤ L) (hcs0 : cells ≤ room_1.cells ∧ slots ≤ room_1.slots) (hcs6 : cells + 1 ≤ room_1.cells ∧ slots + 6 ≤ room_1.slots)
    (ih : ∀ (H : Heap) (locs : List Loc) (ls : Array Slot), lw_I s D cI cJ cZ h a1 a2 a3 a4 a5 hm b1 b2 b3 o b (n + 1) H locs ls → W p l e room_1 s m #[Value.ref b] below meth c H locs (cells + 1) (slots + 6) Q (F0 m 23 ls []))
    (H : Heap) (locs : List Loc) (ls : Array Slot) (hI : lw_I s D cI cJ cZ h a1 a2 a3 a4 a5 hm b1 b2 b3 o b n H locs ls) : W p l e room_1 s m #[Value.ref b] below meth c H locs cells slots Q (F0 m 23 ls []) := by
  obtain ⟨hx, hb, hml, hown, hts, hX, hbl, hK, hZ, hT, hG, hl9⟩ := id C0
  have hbA : ¬ (fun q : Nat => s.heap.size ≤ q) b := Nat.not_le.mpr hbl
  have kk : ∀ (u d lw uw an : Nat → Int64) (mu md tr : Nat → Int32) (fn qn : Nat) (sd : Int64) (th : Int32) (f : Nat → Int64) (H : Heap) (locs : List Loc) (ls : Array Slot), rl fn qn u d lw uw an mu md tr → va_P D vwCl (lW cI cJ cZ h a1 a2 a3 a4 a5 hm b1 b2 b3 o u d lw uw an (nI fn) (nI qn) sd mu md tr (nI fn) (nI qn) sd th f) H → va_D (fun q : Nat => s.heap.size ≤ q) (lW cI cJ cZ h a1 a2 a3 a4 a5 hm b1 b2 b3 o u d lw uw an (nI fn) (nI qn) sd mu md tr (nI fn) (nI qn) sd th f) → va_S (fun q : Nat => s.heap.size ≤ q) s.heap H locs → lv_has ls 9 [(0, .ref b), (1, .ref h), (2, .ref hm), (3, .ref o), (4, .int (nI (5 * n)))] → W p l e room_1 s m #[Value.ref b] below meth c H locs (cells + 1) (slots + 6) Q (F0 m 836 ls []) := by
    intro u d lw uw an mu md tr fn qn sd th f H locs ls hR hP hD hS hl
    refine lv_iinc (v := nI (5 * n + 5)) (lv' := [(4, .int (nI (5 * n + 5))), (0, .ref b), (1, .ref h), (2, .ref hm), (3, .ref o)]) hx hb dL_law_836 hl (k := 4) rfl (oo_inc _ 5) (by decide) rfl (fun ls hl => ?_)
    refine lv_goto (tgt := 23) hx hb dL_law_839 (by decide) ?_
    exact ih H locs ls ⟨u, d, lw, uw, an, mu, md, tr, fn, qn, sd, th, f, hR, hP, hD, hS, lv_sub hl [1, 2, 3, 4, 0] rfl⟩
  obtain ⟨u, d, lw, uw, an, mu, md, tr, fn, qn, sd, th, f, hR, hP, hD, hS, hl⟩ := hI
  refine lv_iload hx hb dL_law_23 (lv_at hl 4 rfl) ?_
  refine lv_aload_n hx hb dL_law_25 rfl (lv_at hl 0 rfl) ?_
  refine va_slen hx hb hX hbl hbA hS dL_law_26 ?_
  refine lv_iconst (v := nI 5) hx hb dL_law_27 (by decide) ?_
  refine lv_isub hx hb dL_law_28 ?_
  refine oo_topI (y := nI (L - 5)) (pk_sub (by omega)) ?_
  refine lv_icmp_gt (tgt := 842) hx hb dL_law_29 (by decide) (fun c_29 => ?_) (fun c_29 => ?_)
  · exact absurd c_29 (nI_nlt (by omega) (by omega))
  refine lv_aload_n hx hb dL_law_32 rfl (lv_at hl 0 rfl) ?_
  refine lv_iload hx hb dL_law_33 (lv_at hl 4 rfl) ?_
  refine va_sld hx hb hX hbl hbA hS (vp_in_nI (by omega) (by omega)) dL_law_35 ?_
  refine lv_bipush (v := nI 31) hx hb dL_law_36 (by decide) ?_
  refine lv_iand hx hb dL_law_38 ?_
  obtain ⟨k9, hk9, ek9⟩ := pk_andE (xs (nI (5 * n)).toNatClampNeg) (m := nI 31) 5 (by decide)
  refine oo_topI ek9 ?_
  by_cases h_0 : k9 = 0
  · subst h_0
    refine lv_tableIn (off := 85) (tgt := 124) hx hb dL_law_39 (by decide) (by decide) (by decide +kernel) (by decide) ?_
    exact lw_c0 hL C0 n hn hcs0 hcs6 kk u d lw uw an mu md tr fn qn sd th f H locs ls hR hP hD hS hl
  by_cases h_1 : k9 = 1
  · subst h_1
    refine lv_tableIn (off := 122) (tgt := 161) hx hb dL_law_39 (by decide) (by decide) (by decide +kernel) (by decide) ?_
    exact lw_c1 hL C0 n hn hcs0 hcs6 kk u d lw uw an mu md tr fn qn sd th f H locs ls hR hP hD hS hl
  by_cases h_2 : k9 = 2
  · subst h_2
    refine lv_tableIn (off := 171) (tgt := 210) hx hb dL_law_39 (by decide) (by decide) (by decide +kernel) (by decide) ?_
    exact lw_c2 hL C0 n hn hcs0 hcs6 kk u d lw uw an mu md tr fn qn sd th f H locs ls hR hP hD hS hl
  by_cases h_3 : k9 = 3
  · subst h_3
    refine lv_tableIn (off := 208) (tgt := 247) hx hb dL_law_39 (by decide) (by decide) (by decide +kernel) (by decide) ?_
    exact lw_c3 hL C0 n hn hcs0 hcs6 kk u d lw uw an mu md tr fn qn sd th f H locs ls hR hP hD hS hl
  by_cases h_4 : k9 = 4
  · subst h_4
    refine lv_tableIn (off := 257) (tgt := 296) hx hb dL_law_39 (by decide) (by decide) (by decide +kernel) (by decide) ?_
    exact lw_c4 hL C0 n hn hcs0 hcs6 kk u d lw uw an mu md tr fn qn sd th f H locs ls hR hP hD hS hl
  by_cases h_5 : k9 = 5
  · subst h_5
    refine lv_tableIn (off := 306) (tgt := 345) hx hb dL_law_39 (by decide) (by decide) (by decide +kernel) (by decide) ?_
    exact lw_c5 hL C0 n hn hcs0 hcs6 kk u d lw uw an mu md tr fn qn sd th f H locs ls hR hP hD hS hl
  by_cases h_6 : k9 = 6
  · subst h_6
    refine lv_tableIn (off := 343) (tgt := 382) hx hb dL_law_39 (by decide) (by decide) (by decide +kernel) (by decide) ?_
    exact lw_c6 hL C0 n hn hcs0 hcs6 kk u d lw uw an mu md tr fn qn sd th f H locs ls hR hP hD hS hl
  by_cases h_7 : k9 = 7
  · subst h_7
    refine lv_tableIn (off := 381) (tgt := 420) hx hb dL_law_39 (by decide) (by decide) (by decide +kernel) (by decide) ?_
    exact lw_c7 hL C0 n hn hcs0 hcs6 kk u d lw uw an mu md tr fn qn sd th f H locs ls hR hP hD hS hl
  by_cases h_8 : k9 = 8
  · subst h_8
    refine lv_tableIn (off := 434) (tgt := 473) hx hb dL_law_39 (by decide) (by decide) (by decide +kernel) (by decide) ?_
    exact lw_c8 hL C0 n hn hcs0 hcs6 kk u d lw uw an mu md tr fn qn sd th f H locs ls hR hP hD hS hl
  by_cases h_9 : k9 = 9
  · subst h_9
    refine lv_tableIn (off := 501) (tgt := 540) hx hb dL_law_39 (by decide) (by decide) (by decide +kernel) (by decide) ?_
    exact lw_c9 hL C0 n hn hcs0 hcs6 kk u d lw uw an mu md tr fn qn sd th f H locs ls hR hP hD hS hl
  by_cases h_10 : k9 = 10
  · subst h_10
    refine lv_tableIn (off := 551) (tgt := 590) hx hb dL_law_39 (by decide) (by decide) (by decide +kernel) (by decide) ?_
    exact lw_c10 hL C0 n hn hcs0 hcs6 kk u d lw uw an mu md tr fn qn sd th f H locs ls hR hP hD hS hl
  by_cases h_11 : k9 = 11
  · subst h_11
    refine lv_tableIn (off := 576) (tgt := 615) hx hb dL_law_39 (by decide) (by decide) (by decide +kernel) (by decide) ?_
    exact lw_c11 hL C0 n hn hcs0 hcs6 kk u d lw uw an mu md tr fn qn sd th f H locs ls hR hP hD hS hl
  by_cases h_12 : k9 = 12
  · subst h_12
    refine lv_tableIn (off := 601) (tgt := 640) hx hb dL_law_39 (by decide) (by decide) (by decide +kernel) (by decide) ?_
    exact lw_c12 hL C0 n hn hcs0 hcs6 kk u d lw uw an mu md tr fn qn sd th f H locs ls hR hP hD hS hl
  by_cases h_13 : k9 = 13
  · subst h_13
    refine lv_tableIn (off := 627) (tgt := 666) hx hb dL_law_39 (by decide) (by decide) (by decide +kernel) (by decide) ?_
    exact lw_c13 hL C0 n hn hcs0 hcs6 kk u d lw uw an mu md tr fn qn sd th f H locs ls hR hP hD hS hl
  by_cases h_14 : k9 = 14
  · subst h_14
    refine lv_tableIn (off := 652) (tgt := 691) hx hb dL_law_39 (by decide) (by decide) (by decide +kernel) (by decide) ?_
    exact lw_c14 hL C0 n hn hcs0 hcs6 kk u d lw uw an mu md tr fn qn sd th f H locs ls hR hP hD hS hl
  by_cases h_15 : k9 = 15
  · subst h_15
    refine lv_tableIn (off := 689) (tgt := 728) hx hb dL_law_39 (by decide) (by decide) (by decide +kernel) (by decide) ?_
    exact lw_c15 hL C0 n hn hcs0 hcs6 kk u d lw uw an mu md tr fn qn sd th f H locs ls hR hP hD hS hl
  by_cases h_16 : k9 = 16
  · subst h_16
    refine lv_tableIn (off := 770) (tgt := 809) hx hb dL_law_39 (by decide) (by decide) (by decide +kernel) (by decide) ?_
    exact lw_c16 hL C0 n hn hcs0 hcs6 kk u d lw uw an mu md tr fn qn sd th f H locs ls hR hP hD hS hl
  by_cases h_17 : k9 = 17
  · subst h_17
    refine lv_tableIn (off := 784) (tgt := 823) hx hb dL_law_39 (by decide) (by decide) (by decide +kernel) (by decide) ?_
    exact lw_c17 hL C0 n hn hcs0 hcs6 kk u d lw uw an mu md tr fn qn sd th f H locs ls hR hP hD hS hl
  refine lv_tableOut (tgt := 836) hx hb dL_law_39 (Or.inr (by rw [nI_toInt (by omega)]; omega)) (by decide) ?_
  refine W.widen (k := cells + 1) (n := slots + 6) (by omega) (by omega) ?_
  exact kk u d lw uw an mu md tr fn qn sd th f H locs ls hR hP hD hS hl
set_option maxHeartbeats 4000000 in
set_option maxRecDepth 100000 in
theorem lw_loop {p : Program} {l : Launch} {e : Env} {s : State} {m : MethodId} {below : List Frame} {meth : Method} {c : Code} {b L : Nat} {xs : Nat → Int32} {D : va_G} {cI cJ cZ : ClassId} {h a1 a2 a3 a4 a5 hm b1 b2 b3 o t sa : Nat} {Q : State → Prop} (hL : L ≤ 2560) (C0 : lw_Cx p l s m meth c b L xs D cI cJ cZ t sa) (hend : ∀ (H : Heap) (ls : Array Slot), W p l e room_1 s m #[Value.ref b] below meth c H [] 601024 7293034 Q (F0 m 843 ls [.int 1]))
    (H : Heap) (locs : List Loc) (ls : Array Slot) (hI : lw_I s D cI cJ cZ h a1 a2 a3 a4 a5 hm b1 b2 b3 o b 0 H locs ls) : W p l e room_1 s m #[Value.ref b] below meth c H locs 11 166592 Q (F0 m 23 ls []) := by
  refine oo_loopC (N := L / 5) (fun n => 11 + n) (fun n => 166592 + 6 * n) (lw_I s D cI cJ cZ h a1 a2 a3 a4 a5 hm b1 b2 b3 o b) ?_ ?_ 0 (Nat.zero_le _) hI
  · intro H locs ls hI
    obtain ⟨hx, hb, hml, hown, hts, hX, hbl, hK, hZ, hT, hG, hl9⟩ := id C0
    have hbA : ¬ (fun q : Nat => s.heap.size ≤ q) b := Nat.not_le.mpr hbl
    obtain ⟨u, d, lw, uw, an, mu, md, tr, fn, qn, sd, th, f, hR, hP, hD, hS, hl⟩ := hI
    refine lv_iload hx hb dL_law_23 (lv_at hl 4 rfl) ?_
    refine lv_aload_n hx hb dL_law_25 rfl (lv_at hl 0 rfl) ?_
    refine va_slen hx hb hX hbl hbA hS dL_law_26 ?_
    refine lv_iconst (v := nI 5) hx hb dL_law_27 (by decide) ?_
    refine lv_isub hx hb dL_law_28 ?_
    have hlt : (nI L - nI 5) < nI (5 * (L / 5)) := by
      rcases Nat.lt_or_ge L 5 with q | q
      · rw [show L / 5 = 0 by omega]
        exact pk_sneg (by omega) q
      · rw [pk_sub q]
        exact nI_lt (by omega) (by omega)
    refine lv_icmp_gt (tgt := 842) hx hb dL_law_29 (by decide) (fun c_29 => ?_) (fun c_29 => ?_)
    · refine lv_iconst (v := 1) hx hb dL_law_842 (by decide) ?_
      refine va_forget (fun q hq => hS.2.2 q hq) ?_
      refine W.widen (k := 601024) (n := 7293034) (by show 11 + L / 5 ≤ 601024; omega) (by show 166592 + 6 * (L / 5) ≤ 7293034; omega) ?_
      exact hend H ls
    · exact absurd hlt c_29
  · intro n hn ih H locs ls hI
    have e3 : (11 + n) ≤ 601024 ∧ (166592 + 6 * n) ≤ 7293034 := ⟨by omega, by omega⟩
    have e4 : (11 + n) + 1 ≤ 601024 ∧ (166592 + 6 * n) + 6 ≤ 7293034 := ⟨by omega, by omega⟩
    exact lw_step (cells := 11 + n) (slots := 166592 + 6 * n) hL C0 n (by omega) e3 e4 ih H locs ls hI
theorem lw_stat {s : State} {b : Nat} (hts : ∀ w ∈ lw_tbl, w.before #[Value.ref b] s = true) (hgv : (Jvm.Cond.and given_1 narrow_1).before #[Value.ref b] s = true) (A : Nat → Prop) (hA : ∀ a : Nat, a < s.heap.size → ¬ A a) :
    ∃ t sa : Nat, va_Z "OddsSampling" "WITHOUT_FACT" "[J" (.ref t) A s s.heap ∧ va_T .long t 6 (fun j => .long (wo_W j)) A s s.heap ∧ zx_St sa A s s.heap := by
  have hg := flat_of_before _ hgv
  obtain ⟨t, h1, h2⟩ := va_Tof (tm := .static "OddsSampling" "WITHOUT_FACT" "[J") (ty := .long) (N := 6) (f := fun j => .long (wo_W j)) (A := A) (by decide) (hg _ (by decide +kernel)) (va_eqt (z := 6) (hg _ (by decide +kernel))) (fun j hj => by
    match j, hj with
    | 0, _ => exact va_eqtl (z := 6148914691236517205) (hg _ (by decide +kernel))
    | 1, _ => exact va_eqtl (z := 3689348814741910323) (hg _ (by decide +kernel))
    | 2, _ => exact va_eqtl (z := 1085102592571150095) (hg _ (by decide +kernel))
    | 3, _ => exact va_eqtl (z := 71777214294589695) (hg _ (by decide +kernel))
    | 4, _ => exact va_eqtl (z := 281470681808895) (hg _ (by decide +kernel))
    | 5, _ => exact va_eqtl (z := 4294967295) (hg _ (by decide +kernel))
    | j + 6, hj => omega) hA
  have hex : (Cond.exactly (.string "OddsSampling" 115) "java/lang/String").before #[Value.ref b] s = true := hg _ (by decide +kernel)
  obtain ⟨sa, _, _, _, h3, -⟩ := Cond.exactly_spec hex
  refine ⟨t, sa, va_Zref (hts (.laysStatic "OddsSampling" "WITHOUT_FACT" "[J") (by decide +kernel)) (hts (.initialized "OddsSampling") (by decide +kernel)) h1 hA, h2, vk_R.of (hts (.stringRef "OddsSampling" 115 zx_tx) (by decide +kernel)) h3, ?_, ?_, va_tabs rfl rfl (hts (.declares (Bundle.initS "java/lang/RuntimeException")) (by decide +kernel)), va_tabs rfl rfl (hts (.declares (Bundle.initS "java/lang/Exception")) (by decide +kernel)), va_tabs rfl rfl (hts (.declares (Bundle.initS "java/lang/Throwable")) (by decide +kernel)), va_tabs rfl rfl (hts (.castable "java/lang/ArithmeticException" "java/lang/ArithmeticException") (by decide +kernel))⟩
  · exact vx_Zqof (hts (.laysStatic Bundle.tN "UNASSIGNED_STACK" Bundle.steD) (by decide +kernel)) (hts (.initialized Bundle.tN) (by decide +kernel)) (hg (.isRef (.static Bundle.tN "UNASSIGNED_STACK" Bundle.steD)) (by decide +kernel)) hA
  · exact vx_Zqof (hts (.laysStatic Bundle.tN "SUPPRESSED_SENTINEL" Bundle.listD) (by decide +kernel)) (hts (.initialized Bundle.tN) (by decide +kernel)) (hg (.isRef (.static Bundle.tN "SUPPRESSED_SENTINEL" Bundle.listD)) (by decide +kernel)) hA

