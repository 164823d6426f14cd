abbrev lW (cI cJ cZ : ClassId) (h a1 a2 a3 a4 a5 hm b1 b2 b3 o : Nat) (u d lw uw an : Nat → Int64) (fc qc : Int32) (sd : Int64) (mu md tr : Nat → Int32) (gc rc : Int32) (se : Int64) (th : Int32) (f : Nat → Int64) : va_W := [(h, .inr (0, [.ref a1, .ref a2, .ref a3, .ref a4, .ref a5, .int fc, .int qc, .long sd])), (a1, .inl (cJ, 12, .inr (.inl u))), (a2, .inl (cJ, 12, .inr (.inl d))), (a3, .inl (cJ, 64, .inr (.inl lw))), (a4, .inl (cJ, 64, .inr (.inl uw))), (a5, .inl (cJ, 2560, .inr (.inl an))), (hm, .inr (1, [.ref b1, .ref b2, .int gc, .ref b3, .int rc, .long se, .int th])), (b1, .inl (cI, 12, .inl mu)), (b2, .inl (cI, 12, .inl md)), (b3, .inl (cZ, 163840, .inl tr)), (o, .inl (cJ, 1, .inr (.inl f)))]
theorem zx_calli {p : Program} {l : Launch} {e : Env} {R : Room} {s : State} {m : MethodId} {args : Array Value} {below : List Frame} {meth : Method} {c : Code} {H : Heap} {locs : List Loc} {cells slots mc ms : Nat} {Q : State → Prop} {pc : Nat} {ls : Array Slot} {rest st0 : List Value} {a : Array Value} {A0 : Nat → Prop} {H0 : Heap} {D : va_G} {ws wc w1 : va_W} {v : Int32}
    (hr : va_Run p l e R s m args below meth c H locs cells slots mc ms (F0 m pc ls st0) rest (oo_MQi D wc w1 H.size v a) (va_A wc H.size)) (hP : va_P D vwCl ws H) (hD : va_D A0 ws) (hS : va_S A0 H0 H locs) (hA : ∀ q, H0.size ≤ q → A0 q)
    (is : List Nat) (hC : is.map (fun i => ws[i]?) = wc.map some) (hF : w1.map (fun q => q.1) = wc.map (fun q => q.1))
    (kk : ∀ (H1 : Heap) (locs1 : List Loc), va_P D vwCl (oo_repl ws is w1) H1 → va_D A0 (oo_repl ws is w1) → va_S A0 H0 H1 locs1 → W p l e R s m args below meth c H1 locs1 (cells + mc) (slots + ms) Q (F0 m (pc + 3) ls (.int v :: rest))) : W p l e R s m args below meth c H locs cells slots Q (F0 m pc ls st0) := by
  have hFc := va_free (wc := wc) hD hS hA is hC
  exact va_calli hr hS (fun q _ h => hFc q h) hFc (fun r u t H1 locs1 ht hvm hp hb hz hk hS1 => by
    subst hp; subst ht
    obtain ⟨g1, g2⟩ := oo_world hP hD is hC hF hk hb.1
    exact kk _ locs1 g1 g2 hS1)
theorem zx_psM {s : State} {H : Heap} {locs : List Loc} {A0 : Nat → Prop} {D : va_G} {ws wc : va_W} {tys Rc : List (ClassId × FieldType)} {av : List Value} {sa : Nat} (hP : va_P D vwCl ws H) (hD : va_D A0 ws) (hK : va_K D vwCl tys s) (hG : zx_St sa A0 s s.heap) (hS : va_S A0 s.heap H locs) (hA : ∀ q, s.heap.size ≤ q → A0 q)
    (is : List Nat) (hC : is.map (fun i => ws[i]?) = wc.map some) (hn : va_nd is = true) (js : List Nat) (ht : js.filterMap (fun i => tys[i]?) = Rc) :
    ∀ U : State, U.heap = H → s.WarmedH U.vm → va_Pc av (zx_preM D wc Rc sa H.size) av.toArray U := fun U hU hW => by
  have hFc := va_free (wc := wc) hD hS hA is hC
  refine ⟨rfl, (oo_psM (av := av) hP hD hK is hC hn js ht U hU hW).2, hG.to hS hU hW, hG.1.warm hW, ?_, ?_, zx_G.warm hW hG.2.2.2⟩
  · rw [hU]; exact (vx_Zq.moved hW.alike (hG.2.1.kept (fun a h1 h2 => hS.2.1 a h1 h2))).narrow hFc
  · rw [hU]; exact (vx_Zq.moved hW.alike (hG.2.2.1.kept (fun a h1 h2 => hS.2.1 a h1 h2))).narrow hFc
/-- what the law stands on, from its entry on -/
def lw_Cx (p : Program) (l : Launch) (s : State) (m : MethodId) (meth : Method) (c : Code) (b L : Nat) (xs : Nat → Int32) (D : va_G) (cI cJ cZ : ClassId) (t sa : Nat) : Prop :=
  p.tables.exec = Jvm.exec ∧ c.code = cL_law ∧ c.maxLocals = 9 ∧ s.vm.findClass RL = some m.cls ∧ (∀ w ∈ wsL_law, w.before #[Value.ref b] s = true) ∧ va_X b L xs s s.heap ∧ b < s.heap.size ∧ va_K D vwCl [(cJ, .long), (cI, .int), (cZ, .boolean)] s ∧
  va_Z "OddsSampling" "WITHOUT_FACT" "[J" (.ref t) (fun q : Nat => s.heap.size ≤ q) s s.heap ∧ va_T .long t 6 (fun j => .long (wo_W j)) (fun q : Nat => s.heap.size ≤ q) s s.heap ∧ zx_St sa (fun q : Nat => s.heap.size ≤ q) s s.heap ∧ l.stackTraces = false
set_option maxHeartbeats 4000000 in
set_option maxRecDepth 100000 in
theorem lw_c0 {p : Program} {l : Launch} {e : Env} {s : State} {m : MethodId} {below : List Frame} {meth : Method} {c : Code} {b L : Nat} {xs : Nat → Int32} {D : va_G} {cI cJ cZ : ClassId} {h a1 a2 a3 a4 a5 hm b1 b2 b3 o t sa : Nat} {cells slots : Nat} {Q : State → Prop} (hL : L ≤ 2560) (C0 : lw_Cx p l s m meth c b L xs D cI cJ cZ t sa) (n : Nat) (hn : 5 * n + 5 ≤ L) (hcs0 : cells ≤ room_1.cells ∧ slots ≤ room_1.slots) (hcs6 : cells + 1 ≤ room_1.cells ∧ slots + 6 ≤ room_1.slots)
    (kk : ∀ (u d lw uw an : Nat → Int64) (mu md tr : Nat → Int32) (fn qn : Nat) (sd : Int64) (th : Int32) (f : Nat → Int64) (H : Heap) (locs : List Loc) (ls : Array Slot), rl fn qn u d lw uw an mu md tr → va_P D vwCl (lW cI cJ cZ h a1 a2 a3 a4 a5 hm b1 b2 b3 o u d lw uw an (nI fn) (nI qn) sd mu md tr (nI fn) (nI qn) sd th f) H → va_D (fun q : Nat => s.heap.size ≤ q) (lW cI cJ cZ h a1 a2 a3 a4 a5 hm b1 b2 b3 o u d lw uw an (nI fn) (nI qn) sd mu md tr (nI fn) (nI qn) sd th f) → va_S (fun q : Nat => s.heap.size ≤ q) s.heap H locs → lv_has ls 9 [(0, .ref b), (1, .ref h), (2, .ref hm), (3, .ref o), (4, .int (nI (5 * n)))] → W p l e room_1 s m #[Value.ref b] below meth c H locs (cells + 1) (slots + 6) Q (F0 m 836 ls []))
    (u d lw uw an : Nat → Int64) (mu md tr : Nat → Int32) (fn qn : Nat) (sd : Int64) (th : Int32) (f : Nat → Int64) (H : Heap) (locs : List Loc) (ls : Array Slot) (hR : rl fn qn u d lw uw an mu md tr) (hP : va_P D vwCl (lW cI cJ cZ h a1 a2 a3 a4 a5 hm b1 b2 b3 o u d lw uw an (nI fn) (nI qn) sd mu md tr (nI fn) (nI qn) sd th f) H) (hD : va_D (fun q : Nat => s.heap.size ≤ q) (lW cI cJ cZ h a1 a2 a3 a4 a5 hm b1 b2 b3 o u d lw uw an (nI fn) (nI qn) sd mu md tr (nI fn) (nI qn) sd th f)) (hS : va_S (fun q : Nat => s.heap.size ≤ q) s.heap H locs) (hl : lv_has ls 9 [(0, .ref b), (1, .ref h), (2, .ref hm), (3, .ref o), (4, .int (nI (5 * n)))]) : W p l e room_1 s m #[Value.ref b] below meth c H locs cells slots Q (F0 m 124 ls []) := by
  obtain ⟨hx, hb, hml, hown, hts, hX, hbl, hK, hZ, hT, hG, hl9⟩ := C0
  obtain ⟨hfn, hqn, h01, -, -⟩ := id hR
  have hbA : ¬ (fun q : Nat => s.heap.size ≤ q) b := Nat.not_le.mpr hbl
  have hA : ∀ q : Nat, s.heap.size ≤ q → (fun q : Nat => s.heap.size ≤ q) q := fun _ z => z
  refine lv_aload_n hx hb dL_law_124 rfl (lv_at hl 1 rfl) ?_
  refine lv_aload_n hx hb dL_law_125 rfl (lv_at hl 0 rfl) ?_
  refine lv_iload hx hb dL_law_126 (lv_at hl 4 rfl) ?_
  refine lv_iconst (v := nI 1) hx hb dL_law_128 (by decide) ?_
  refine lv_iadd hx hb dL_law_129 ?_
  refine oo_topI (y := nI ((5 * n) + 1)) (nI_add _ _) ?_
  refine va_sld hx hb hX hbl hbA hS (vp_in_nI (by omega) (by omega)) dL_law_130 ?_
  refine oo_topI (y := xs ((5 * n) + 1)) (congrArg xs (nI_clamp (by omega))) ?_
  refine lv_aload_n hx hb dL_law_131 rfl (lv_at hl 0 rfl) ?_
  refine lv_iload hx hb dL_law_132 (lv_at hl 4 rfl) ?_
  refine lv_iconst (v := nI 2) hx hb dL_law_134 (by decide) ?_
  refine lv_iadd hx hb dL_law_135 ?_
  refine oo_topI (y := nI ((5 * n) + 2)) (nI_add _ _) ?_
  refine va_sld hx hb hX hbl hbA hS (vp_in_nI (by omega) (by omega)) dL_law_136 ?_
  refine oo_topI (y := xs ((5 * n) + 2)) (congrArg xs (nI_clamp (by omega))) ?_
  refine mu_calli (va_runV (As := [.int (xs ((5 * n) + 1)), .int (xs ((5 * n) + 2))]) (rest := []) ⟨hx, hb, hml, hown, hts⟩ (kX0_fact l D cJ h a1 a2 a3 a4 a5 u d lw uw an fn qn sd (xs ((5 * n) + 1)) (xs ((5 * n) + 2)) _) (cwV 2 hts gL_law_X0_fact rfl rfl rfl ok_X0_fact ⟨Nat.le_of_ble_eq_true rfl, Nat.le_of_ble_eq_true rfl⟩) ⟨oo_blindM, va_recv hK hP (ci := 0) (q0 := 0) rfl rfl, oo_psM hP hD hK [0, 1, 2, 3, 4, 5] rfl rfl [0] rfl⟩ rfl rfl hl.1 rfl (lv_room (Nat.le_of_ble_eq_true rfl)) dL_law_137 hcs0) hP hD hS hA [0, 1, 2, 3, 4, 5] rfl (oo_fc (oo_fc (oo_fc (oo_fc (oo_fc (oo_fc rfl)))))) (fun H locs hP hD hS => ?_)
  have hP : va_P D vwCl (lW cI cJ cZ h a1 a2 a3 a4 a5 hm b1 b2 b3 o (kvX0_fact_u u fn (xs ((5 * n) + 1)) (xs ((5 * n) + 2))) (kvX0_fact_d d fn (xs ((5 * n) + 1)) (xs ((5 * n) + 2))) (kvX0_fact_lw u d lw fn (xs ((5 * n) + 1)) (xs ((5 * n) + 2))) (kvX0_fact_uw u d uw fn (xs ((5 * n) + 1)) (xs ((5 * n) + 2))) an (kvX0_fact_fc fn (xs ((5 * n) + 1)) (xs ((5 * n) + 2))) (nI qn) sd mu md tr (nI fn) (nI qn) sd th f) H := hP
  have hD : va_D _ (lW cI cJ cZ h a1 a2 a3 a4 a5 hm b1 b2 b3 o (kvX0_fact_u u fn (xs ((5 * n) + 1)) (xs ((5 * n) + 2))) (kvX0_fact_d d fn (xs ((5 * n) + 1)) (xs ((5 * n) + 2))) (kvX0_fact_lw u d lw fn (xs ((5 * n) + 1)) (xs ((5 * n) + 2))) (kvX0_fact_uw u d uw fn (xs ((5 * n) + 1)) (xs ((5 * n) + 2))) an (kvX0_fact_fc fn (xs ((5 * n) + 1)) (xs ((5 * n) + 2))) (nI qn) sd mu md tr (nI fn) (nI qn) sd th f) := hD
  refine lv_aload_n hx hb dL_law_140 rfl (lv_at hl 2 rfl) ?_
  refine lv_aload_n hx hb dL_law_141 rfl (lv_at hl 0 rfl) ?_
  refine lv_iload hx hb dL_law_142 (lv_at hl 4 rfl) ?_
  refine lv_iconst (v := nI 1) hx hb dL_law_144 (by decide) ?_
  refine lv_iadd hx hb dL_law_145 ?_
  refine oo_topI (y := nI ((5 * n) + 1)) (nI_add _ _) ?_
  refine va_sld hx hb hX hbl hbA hS (vp_in_nI (by omega) (by omega)) dL_law_146 ?_
  refine oo_topI (y := xs ((5 * n) + 1)) (congrArg xs (nI_clamp (by omega))) ?_
  refine lv_aload_n hx hb dL_law_147 rfl (lv_at hl 0 rfl) ?_
  refine lv_iload hx hb dL_law_148 (lv_at hl 4 rfl) ?_
  refine lv_iconst (v := nI 2) hx hb dL_law_150 (by decide) ?_
  refine lv_iadd hx hb dL_law_151 ?_
  refine oo_topI (y := nI ((5 * n) + 2)) (nI_add _ _) ?_
  refine va_sld hx hb hX hbl hbA hS (vp_in_nI (by omega) (by omega)) dL_law_152 ?_
  refine oo_topI (y := xs ((5 * n) + 2)) (congrArg xs (nI_clamp (by omega))) ?_
  refine mu_calli (va_runV (As := [.int (xs ((5 * n) + 1)), .int (xs ((5 * n) + 2))]) (rest := [.int (kvX0_fact fn (xs ((5 * n) + 1)) (xs ((5 * n) + 2)))]) ⟨hx, hb, hml, hown, hts⟩ (kX1_fact l D cI cZ hm b1 b2 b3 mu md tr fn qn sd th (xs ((5 * n) + 1)) (xs ((5 * n) + 2)) hfn _) (cwV 2 hts gL_law_X1_fact rfl rfl rfl ok_X1_fact ⟨Nat.le_of_ble_eq_true rfl, Nat.le_of_ble_eq_true rfl⟩) ⟨oo_blindM, va_recv hK hP (ci := 1) (q0 := 6) rfl rfl, oo_psM hP hD hK [6, 7, 8, 9] rfl rfl [1, 2] rfl⟩ rfl rfl hl.1 rfl (lv_room (Nat.le_of_ble_eq_true rfl)) dL_law_153 hcs0) hP hD hS hA [6, 7, 8, 9] rfl (oo_fc (oo_fc (oo_fc (oo_fc rfl)))) (fun H locs hP hD hS => ?_)
  have hP : va_P D vwCl (lW cI cJ cZ h a1 a2 a3 a4 a5 hm b1 b2 b3 o (kvX0_fact_u u fn (xs ((5 * n) + 1)) (xs ((5 * n) + 2))) (kvX0_fact_d d fn (xs ((5 * n) + 1)) (xs ((5 * n) + 2))) (kvX0_fact_lw u d lw fn (xs ((5 * n) + 1)) (xs ((5 * n) + 2))) (kvX0_fact_uw u d uw fn (xs ((5 * n) + 1)) (xs ((5 * n) + 2))) an (kvX0_fact_fc fn (xs ((5 * n) + 1)) (xs ((5 * n) + 2))) (nI qn) sd (kvX1_fact_u mu fn (xs ((5 * n) + 1)) (xs ((5 * n) + 2))) (kvX1_fact_d md fn (xs ((5 * n) + 1)) (xs ((5 * n) + 2))) tr (kvX1_fact_fc fn (xs ((5 * n) + 1)) (xs ((5 * n) + 2))) (nI qn) sd (0 : Int32) f) H := hP
  have hD : va_D _ (lW cI cJ cZ h a1 a2 a3 a4 a5 hm b1 b2 b3 o (kvX0_fact_u u fn (xs ((5 * n) + 1)) (xs ((5 * n) + 2))) (kvX0_fact_d d fn (xs ((5 * n) + 1)) (xs ((5 * n) + 2))) (kvX0_fact_lw u d lw fn (xs ((5 * n) + 1)) (xs ((5 * n) + 2))) (kvX0_fact_uw u d uw fn (xs ((5 * n) + 1)) (xs ((5 * n) + 2))) an (kvX0_fact_fc fn (xs ((5 * n) + 1)) (xs ((5 * n) + 2))) (nI qn) sd (kvX1_fact_u mu fn (xs ((5 * n) + 1)) (xs ((5 * n) + 2))) (kvX1_fact_d md fn (xs ((5 * n) + 1)) (xs ((5 * n) + 2))) tr (kvX1_fact_fc fn (xs ((5 * n) + 1)) (xs ((5 * n) + 2))) (nI qn) sd (0 : Int32) f) := hD
  refine lv_icmp_eq (tgt := 836) hx hb dL_law_156 (by decide) (fun c_156 => ?_) (fun c_156 => ?_)
  · obtain ⟨fn9, e1, e2, hR9⟩ := lm_fact hR (xs (5 * n + 1)) (xs (5 * n + 2))
    have hP := Eq.mp (congrArg (fun z9 => va_P D vwCl (lW cI cJ cZ h a1 a2 a3 a4 a5 hm b1 b2 b3 o (kvX0_fact_u u fn (xs ((5 * n) + 1)) (xs ((5 * n) + 2))) (kvX0_fact_d d fn (xs ((5 * n) + 1)) (xs ((5 * n) + 2))) (kvX0_fact_lw u d lw fn (xs ((5 * n) + 1)) (xs ((5 * n) + 2))) (kvX0_fact_uw u d uw fn (xs ((5 * n) + 1)) (xs ((5 * n) + 2))) an z9 (nI qn) sd (kvX1_fact_u mu fn (xs ((5 * n) + 1)) (xs ((5 * n) + 2))) (kvX1_fact_d md fn (xs ((5 * n) + 1)) (xs ((5 * n) + 2))) tr (kvX1_fact_fc fn (xs ((5 * n) + 1)) (xs ((5 * n) + 2))) (nI qn) sd (0 : Int32) f) H) (show kvX0_fact_fc fn (xs ((5 * n) + 1)) (xs ((5 * n) + 2)) = nI fn9 from e1)) hP
    have hP := Eq.mp (congrArg (fun z9 => va_P D vwCl (lW cI cJ cZ h a1 a2 a3 a4 a5 hm b1 b2 b3 o (kvX0_fact_u u fn (xs ((5 * n) + 1)) (xs ((5 * n) + 2))) (kvX0_fact_d d fn (xs ((5 * n) + 1)) (xs ((5 * n) + 2))) (kvX0_fact_lw u d lw fn (xs ((5 * n) + 1)) (xs ((5 * n) + 2))) (kvX0_fact_uw u d uw fn (xs ((5 * n) + 1)) (xs ((5 * n) + 2))) an (nI fn9) (nI qn) sd (kvX1_fact_u mu fn (xs ((5 * n) + 1)) (xs ((5 * n) + 2))) (kvX1_fact_d md fn (xs ((5 * n) + 1)) (xs ((5 * n) + 2))) tr z9 (nI qn) sd (0 : Int32) f) H) (show kvX1_fact_fc fn (xs ((5 * n) + 1)) (xs ((5 * n) + 2)) = nI fn9 from e2)) hP
    have hP : va_P D vwCl (lW cI cJ cZ h a1 a2 a3 a4 a5 hm b1 b2 b3 o (kvX0_fact_u u fn (xs ((5 * n) + 1)) (xs ((5 * n) + 2))) (kvX0_fact_d d fn (xs ((5 * n) + 1)) (xs ((5 * n) + 2))) (kvX0_fact_lw u d lw fn (xs ((5 * n) + 1)) (xs ((5 * n) + 2))) (kvX0_fact_uw u d uw fn (xs ((5 * n) + 1)) (xs ((5 * n) + 2))) an (nI fn9) (nI qn) sd (kvX1_fact_u mu fn (xs ((5 * n) + 1)) (xs ((5 * n) + 2))) (kvX1_fact_d md fn (xs ((5 * n) + 1)) (xs ((5 * n) + 2))) tr (nI fn9) (nI qn) sd (0 : Int32) f) H := hP
    have hD : va_D _ (lW cI cJ cZ h a1 a2 a3 a4 a5 hm b1 b2 b3 o (kvX0_fact_u u fn (xs ((5 * n) + 1)) (xs ((5 * n) + 2))) (kvX0_fact_d d fn (xs ((5 * n) + 1)) (xs ((5 * n) + 2))) (kvX0_fact_lw u d lw fn (xs ((5 * n) + 1)) (xs ((5 * n) + 2))) (kvX0_fact_uw u d uw fn (xs ((5 * n) + 1)) (xs ((5 * n) + 2))) an (nI fn9) (nI qn) sd (kvX1_fact_u mu fn (xs ((5 * n) + 1)) (xs ((5 * n) + 2))) (kvX1_fact_d md fn (xs ((5 * n) + 1)) (xs ((5 * n) + 2))) tr (nI fn9) (nI qn) sd (0 : Int32) f) := oo_Dre hD (oo_fc (oo_fc (oo_fc (oo_fc (oo_fc (oo_fc (oo_fc (oo_fc (oo_fc (oo_fc (oo_fc rfl)))))))))))
    refine W.widen (k := cells + 1) (n := slots + 6) (by omega) (by omega) ?_
    exact kk (kvX0_fact_u u fn (xs ((5 * n) + 1)) (xs ((5 * n) + 2))) (kvX0_fact_d d fn (xs ((5 * n) + 1)) (xs ((5 * n) + 2))) (kvX0_fact_lw u d lw fn (xs ((5 * n) + 1)) (xs ((5 * n) + 2))) (kvX0_fact_uw u d uw fn (xs ((5 * n) + 1)) (xs ((5 * n) + 2))) an (kvX1_fact_u mu fn (xs ((5 * n) + 1)) (xs ((5 * n) + 2))) (kvX1_fact_d md fn (xs ((5 * n) + 1)) (xs ((5 * n) + 2))) tr fn9 qn sd (0 : Int32) f H locs ls hR9 hP hD hS (lv_sub hl [0, 1, 2, 3, 4] rfl)
  · exact absurd (lm_fact_v hR _ _) c_156
set_option maxHeartbeats 4000000 in
set_option maxRecDepth 100000 in
theorem lw_c1 {p : Program} {l : Launch} {e : Env} {s : State} {m : MethodId} {below : List Frame} {meth : Method} {c : Code} {b L : Nat} {xs : Nat → Int32} {D : va_G} {cI cJ cZ : ClassId} {h a1 a2 a3 a4 a5 hm b1 b2 b3 o t sa : Nat} {cells slots : Nat} {Q : State → Prop} (hL : L ≤ 2560) (C0 : lw_Cx p l s m meth c b L xs D cI cJ cZ t sa) (n : Nat) (hn : 5 * n + 5 ≤ L) (hcs0 : cells ≤ room_1.cells ∧ slots ≤ room_1.slots) (hcs6 : cells + 1 ≤ room_1.cells ∧ slots + 6 ≤ room_1.slots)
    (kk : ∀ (u d lw uw an : Nat → Int64) (mu md tr : Nat → Int32) (fn qn : Nat) (sd : Int64) (th : Int32) (f : Nat → Int64) (H : Heap) (locs : List Loc) (ls : Array Slot), rl fn qn u d lw uw an mu md tr → va_P D vwCl (lW cI cJ cZ h a1 a2 a3 a4 a5 hm b1 b2 b3 o u d lw uw an (nI fn) (nI qn) sd mu md tr (nI fn) (nI qn) sd th f) H → va_D (fun q : Nat => s.heap.size ≤ q) (lW cI cJ cZ h a1 a2 a3 a4 a5 hm b1 b2 b3 o u d lw uw an (nI fn) (nI qn) sd mu md tr (nI fn) (nI qn) sd th f) → va_S (fun q : Nat => s.heap.size ≤ q) s.heap H locs → lv_has ls 9 [(0, .ref b), (1, .ref h), (2, .ref hm), (3, .ref o), (4, .int (nI (5 * n)))] → W p l e room_1 s m #[Value.ref b] below meth c H locs (cells + 1) (slots + 6) Q (F0 m 836 ls []))
    (u d lw uw an : Nat → Int64) (mu md tr : Nat → Int32) (fn qn : Nat) (sd : Int64) (th : Int32) (f : Nat → Int64) (H : Heap) (locs : List Loc) (ls : Array Slot) (hR : rl fn qn u d lw uw an mu md tr) (hP : va_P D vwCl (lW cI cJ cZ h a1 a2 a3 a4 a5 hm b1 b2 b3 o u d lw uw an (nI fn) (nI qn) sd mu md tr (nI fn) (nI qn) sd th f) H) (hD : va_D (fun q : Nat => s.heap.size ≤ q) (lW cI cJ cZ h a1 a2 a3 a4 a5 hm b1 b2 b3 o u d lw uw an (nI fn) (nI qn) sd mu md tr (nI fn) (nI qn) sd th f)) (hS : va_S (fun q : Nat => s.heap.size ≤ q) s.heap H locs) (hl : lv_has ls 9 [(0, .ref b), (1, .ref h), (2, .ref hm), (3, .ref o), (4, .int (nI (5 * n)))]) : W p l e room_1 s m #[Value.ref b] below meth c H locs cells slots Q (F0 m 161 ls []) := by
  obtain ⟨hx, hb, hml, hown, hts, hX, hbl, hK, hZ, hT, hG, hl9⟩ := C0
  obtain ⟨hfn, hqn, h01, -, -⟩ := id hR
  have hbA : ¬ (fun q : Nat => s.heap.size ≤ q) b := Nat.not_le.mpr hbl
  have hA : ∀ q : Nat, s.heap.size ≤ q → (fun q : Nat => s.heap.size ≤ q) q := fun _ z => z
  refine lv_aload_n hx hb dL_law_161 rfl (lv_at hl 1 rfl) ?_
  refine lv_aload_n hx hb dL_law_162 rfl (lv_at hl 0 rfl) ?_
  refine lv_iload hx hb dL_law_163 (lv_at hl 4 rfl) ?_
  refine lv_iconst (v := nI 1) hx hb dL_law_165 (by decide) ?_
  refine lv_iadd hx hb dL_law_166 ?_
  refine oo_topI (y := nI ((5 * n) + 1)) (nI_add _ _) ?_
  refine va_sld hx hb hX hbl hbA hS (vp_in_nI (by omega) (by omega)) dL_law_167 ?_
  refine oo_topI (y := xs ((5 * n) + 1)) (congrArg xs (nI_clamp (by omega))) ?_
  refine lv_aload_n hx hb dL_law_168 rfl (lv_at hl 0 rfl) ?_
  refine lv_iload hx hb dL_law_169 (lv_at hl 4 rfl) ?_
  refine lv_iconst (v := nI 2) hx hb dL_law_171 (by decide) ?_
  refine lv_iadd hx hb dL_law_172 ?_
  refine oo_topI (y := nI ((5 * n) + 2)) (nI_add _ _) ?_
  refine va_sld hx hb hX hbl hbA hS (vp_in_nI (by omega) (by omega)) dL_law_173 ?_
  refine oo_topI (y := xs ((5 * n) + 2)) (congrArg xs (nI_clamp (by omega))) ?_
  refine lv_aload_n hx hb dL_law_174 rfl (lv_at hl 0 rfl) ?_
  refine lv_iload hx hb dL_law_175 (lv_at hl 4 rfl) ?_
  refine lv_iconst (v := nI 3) hx hb dL_law_177 (by decide) ?_
  refine lv_iadd hx hb dL_law_178 ?_
  refine oo_topI (y := nI ((5 * n) + 3)) (nI_add _ _) ?_
  refine va_sld hx hb hX hbl hbA hS (vp_in_nI (by omega) (by omega)) dL_law_179 ?_
  refine oo_topI (y := xs ((5 * n) + 3)) (congrArg xs (nI_clamp (by omega))) ?_
  refine mu_calli (va_runV (As := [.int (xs ((5 * n) + 1)), .int (xs ((5 * n) + 2)), .int (xs ((5 * n) + 3))]) (rest := []) ⟨hx, hb, hml, hown, hts⟩ (kX0_odds l D cJ h a1 a2 a3 a4 a5 u d lw uw an fn qn sd (xs ((5 * n) + 1)) (xs ((5 * n) + 2)) (xs ((5 * n) + 3)) _) (cwV 3 hts gL_law_X0_odds rfl rfl rfl ok_X0_odds ⟨Nat.le_of_ble_eq_true rfl, Nat.le_of_ble_eq_true rfl⟩) ⟨oo_blindM, va_recv hK hP (ci := 0) (q0 := 0) rfl rfl, oo_psM hP hD hK [0, 1, 2, 3, 4, 5] rfl rfl [0] rfl⟩ rfl rfl hl.1 rfl (lv_room (Nat.le_of_ble_eq_true rfl)) dL_law_180 hcs0) hP hD hS hA [0, 1, 2, 3, 4, 5] rfl (oo_fc (oo_fc (oo_fc (oo_fc (oo_fc (oo_fc rfl)))))) (fun H locs hP hD hS => ?_)
  have hP : va_P D vwCl (lW cI cJ cZ h a1 a2 a3 a4 a5 hm b1 b2 b3 o (kvX0_odds_u u fn (xs ((5 * n) + 1)) (xs ((5 * n) + 2)) (xs ((5 * n) + 3))) (kvX0_odds_d d fn (xs ((5 * n) + 1)) (xs ((5 * n) + 2)) (xs ((5 * n) + 3))) (kvX0_odds_lw u d lw fn (xs ((5 * n) + 1)) (xs ((5 * n) + 2)) (xs ((5 * n) + 3))) (kvX0_odds_uw u d uw fn (xs ((5 * n) + 1)) (xs ((5 * n) + 2)) (xs ((5 * n) + 3))) an (nI fn) (nI qn) sd mu md tr (nI fn) (nI qn) sd th f) H := hP
  have hD : va_D _ (lW cI cJ cZ h a1 a2 a3 a4 a5 hm b1 b2 b3 o (kvX0_odds_u u fn (xs ((5 * n) + 1)) (xs ((5 * n) + 2)) (xs ((5 * n) + 3))) (kvX0_odds_d d fn (xs ((5 * n) + 1)) (xs ((5 * n) + 2)) (xs ((5 * n) + 3))) (kvX0_odds_lw u d lw fn (xs ((5 * n) + 1)) (xs ((5 * n) + 2)) (xs ((5 * n) + 3))) (kvX0_odds_uw u d uw fn (xs ((5 * n) + 1)) (xs ((5 * n) + 2)) (xs ((5 * n) + 3))) an (nI fn) (nI qn) sd mu md tr (nI fn) (nI qn) sd th f) := hD
  refine lv_aload_n hx hb dL_law_183 rfl (lv_at hl 2 rfl) ?_
  refine lv_aload_n hx hb dL_law_184 rfl (lv_at hl 0 rfl) ?_
  refine lv_iload hx hb dL_law_185 (lv_at hl 4 rfl) ?_
  refine lv_iconst (v := nI 1) hx hb dL_law_187 (by decide) ?_
  refine lv_iadd hx hb dL_law_188 ?_
  refine oo_topI (y := nI ((5 * n) + 1)) (nI_add _ _) ?_
  refine va_sld hx hb hX hbl hbA hS (vp_in_nI (by omega) (by omega)) dL_law_189 ?_
  refine oo_topI (y := xs ((5 * n) + 1)) (congrArg xs (nI_clamp (by omega))) ?_
  refine lv_aload_n hx hb dL_law_190 rfl (lv_at hl 0 rfl) ?_
  refine lv_iload hx hb dL_law_191 (lv_at hl 4 rfl) ?_
  refine lv_iconst (v := nI 2) hx hb dL_law_193 (by decide) ?_
  refine lv_iadd hx hb dL_law_194 ?_
  refine oo_topI (y := nI ((5 * n) + 2)) (nI_add _ _) ?_
  refine va_sld hx hb hX hbl hbA hS (vp_in_nI (by omega) (by omega)) dL_law_195 ?_
  refine oo_topI (y := xs ((5 * n) + 2)) (congrArg xs (nI_clamp (by omega))) ?_
  refine lv_aload_n hx hb dL_law_196 rfl (lv_at hl 0 rfl) ?_
  refine lv_iload hx hb dL_law_197 (lv_at hl 4 rfl) ?_
  refine lv_iconst (v := nI 3) hx hb dL_law_199 (by decide) ?_
  refine lv_iadd hx hb dL_law_200 ?_
  refine oo_topI (y := nI ((5 * n) + 3)) (nI_add _ _) ?_
  refine va_sld hx hb hX hbl hbA hS (vp_in_nI (by omega) (by omega)) dL_law_201 ?_
  refine oo_topI (y := xs ((5 * n) + 3)) (congrArg xs (nI_clamp (by omega))) ?_
  refine mu_calli (va_runV (As := [.int (xs ((5 * n) + 1)), .int (xs ((5 * n) + 2)), .int (xs ((5 * n) + 3))]) (rest := [.int (kvX0_odds fn (xs ((5 * n) + 1)) (xs ((5 * n) + 2)) (xs ((5 * n) + 3)))]) ⟨hx, hb, hml, hown, hts⟩ (kX1_odds l D cI cZ hm b1 b2 b3 mu md tr fn qn sd th (xs ((5 * n) + 1)) (xs ((5 * n) + 2)) (xs ((5 * n) + 3)) hfn _) (cwV 3 hts gL_law_X1_odds rfl rfl rfl ok_X1_odds ⟨Nat.le_of_ble_eq_true rfl, Nat.le_of_ble_eq_true rfl⟩) ⟨oo_blindM, va_recv hK hP (ci := 1) (q0 := 6) rfl rfl, oo_psM hP hD hK [6, 7, 8, 9] rfl rfl [1, 2] rfl⟩ rfl rfl hl.1 rfl (lv_room (Nat.le_of_ble_eq_true rfl)) dL_law_202 hcs0) hP hD hS hA [6, 7, 8, 9] rfl (oo_fc (oo_fc (oo_fc (oo_fc rfl)))) (fun H locs hP hD hS => ?_)
  have hP : va_P D vwCl (lW cI cJ cZ h a1 a2 a3 a4 a5 hm b1 b2 b3 o (kvX0_odds_u u fn (xs ((5 * n) + 1)) (xs ((5 * n) + 2)) (xs ((5 * n) + 3))) (kvX0_odds_d d fn (xs ((5 * n) + 1)) (xs ((5 * n) + 2)) (xs ((5 * n) + 3))) (kvX0_odds_lw u d lw fn (xs ((5 * n) + 1)) (xs ((5 * n) + 2)) (xs ((5 * n) + 3))) (kvX0_odds_uw u d uw fn (xs ((5 * n) + 1)) (xs ((5 * n) + 2)) (xs ((5 * n) + 3))) an (nI fn) (nI qn) sd (kvX1_odds_u mu fn (xs ((5 * n) + 1)) (xs ((5 * n) + 2)) (xs ((5 * n) + 3))) (kvX1_odds_d md fn (xs ((5 * n) + 1)) (xs ((5 * n) + 2)) (xs ((5 * n) + 3))) tr (nI fn) (nI qn) sd (0 : Int32) f) H := hP
  have hD : va_D _ (lW cI cJ cZ h a1 a2 a3 a4 a5 hm b1 b2 b3 o (kvX0_odds_u u fn (xs ((5 * n) + 1)) (xs ((5 * n) + 2)) (xs ((5 * n) + 3))) (kvX0_odds_d d fn (xs ((5 * n) + 1)) (xs ((5 * n) + 2)) (xs ((5 * n) + 3))) (kvX0_odds_lw u d lw fn (xs ((5 * n) + 1)) (xs ((5 * n) + 2)) (xs ((5 * n) + 3))) (kvX0_odds_uw u d uw fn (xs ((5 * n) + 1)) (xs ((5 * n) + 2)) (xs ((5 * n) + 3))) an (nI fn) (nI qn) sd (kvX1_odds_u mu fn (xs ((5 * n) + 1)) (xs ((5 * n) + 2)) (xs ((5 * n) + 3))) (kvX1_odds_d md fn (xs ((5 * n) + 1)) (xs ((5 * n) + 2)) (xs ((5 * n) + 3))) tr (nI fn) (nI qn) sd (0 : Int32) f) := hD
  refine lv_icmp_eq (tgt := 836) hx hb dL_law_205 (by decide) (fun c_205 => ?_) (fun c_205 => ?_)
  · refine W.widen (k := cells + 1) (n := slots + 6) (by omega) (by omega) ?_
    exact kk (kvX0_odds_u u fn (xs ((5 * n) + 1)) (xs ((5 * n) + 2)) (xs ((5 * n) + 3))) (kvX0_odds_d d fn (xs ((5 * n) + 1)) (xs ((5 * n) + 2)) (xs ((5 * n) + 3))) (kvX0_odds_lw u d lw fn (xs ((5 * n) + 1)) (xs ((5 * n) + 2)) (xs ((5 * n) + 3))) (kvX0_odds_uw u d uw fn (xs ((5 * n) + 1)) (xs ((5 * n) + 2)) (xs ((5 * n) + 3))) an (kvX1_odds_u mu fn (xs ((5 * n) + 1)) (xs ((5 * n) + 2)) (xs ((5 * n) + 3))) (kvX1_odds_d md fn (xs ((5 * n) + 1)) (xs ((5 * n) + 2)) (xs ((5 * n) + 3))) tr fn qn sd (0 : Int32) f H locs ls (lm_odds hR (xs (5 * n + 1)) (xs (5 * n + 2)) (xs (5 * n + 3))) hP hD hS (lv_sub hl [0, 1, 2, 3, 4] rfl)
  · exact absurd (lm_odds_v hR _ _ _) c_205
set_option maxHeartbeats 4000000 in
set_option maxRecDepth 100000 in
theorem lw_c2 {p : Program} {l : Launch} {e : Env} {s : State} {m : MethodId} {below : List Frame} {meth : Method} {c : Code} {b L : Nat} {xs : Nat → Int32} {D : va_G} {cI cJ cZ : ClassId} {h a1 a2 a3 a4 a5 hm b1 b2 b3 o t sa : Nat} {cells slots : Nat} {Q : State → Prop} (hL : L ≤ 2560) (C0 : lw_Cx p l s m meth c b L xs D cI cJ cZ t sa) (n : Nat) (hn : 5 * n + 5 ≤ L) (hcs0 : cells ≤ room_1.cells ∧ slots ≤ room_1.slots) (hcs6 : cells + 1 ≤ room_1.cells ∧ slots + 6 ≤ room_1.slots)
    (kk : ∀ (u d lw uw an : Nat → Int64) (mu md tr : Nat → Int32) (fn qn : Nat) (sd : Int64) (th : Int32) (f : Nat → Int64) (H : Heap) (locs : List Loc) (ls : Array Slot), rl fn qn u d lw uw an mu md tr → va_P D vwCl (lW cI cJ cZ h a1 a2 a3 a4 a5 hm b1 b2 b3 o u d lw uw an (nI fn) (nI qn) sd mu md tr (nI fn) (nI qn) sd th f) H → va_D (fun q : Nat => s.heap.size ≤ q) (lW cI cJ cZ h a1 a2 a3 a4 a5 hm b1 b2 b3 o u d lw uw an (nI fn) (nI qn) sd mu md tr (nI fn) (nI qn) sd th f) → va_S (fun q : Nat => s.heap.size ≤ q) s.heap H locs → lv_has ls 9 [(0, .ref b), (1, .ref h), (2, .ref hm), (3, .ref o), (4, .int (nI (5 * n)))] → W p l e room_1 s m #[Value.ref b] below meth c H locs (cells + 1) (slots + 6) Q (F0 m 836 ls []))
    (u d lw uw an : Nat → Int64) (mu md tr : Nat → Int32) (fn qn : Nat) (sd : Int64) (th : Int32) (f : Nat → Int64) (H : Heap) (locs : List Loc) (ls : Array Slot) (hR : rl fn qn u d lw uw an mu md tr) (hP : va_P D vwCl (lW cI cJ cZ h a1 a2 a3 a4 a5 hm b1 b2 b3 o u d lw uw an (nI fn) (nI qn) sd mu md tr (nI fn) (nI qn) sd th f) H) (hD : va_D (fun q : Nat => s.heap.size ≤ q) (lW cI cJ cZ h a1 a2 a3 a4 a5 hm b1 b2 b3 o u d lw uw an (nI fn) (nI qn) sd mu md tr (nI fn) (nI qn) sd th f)) (hS : va_S (fun q : Nat => s.heap.size ≤ q) s.heap H locs) (hl : lv_has ls 9 [(0, .ref b), (1, .ref h), (2, .ref hm), (3, .ref o), (4, .int (nI (5 * n)))]) : W p l e room_1 s m #[Value.ref b] below meth c H locs cells slots Q (F0 m 210 ls []) := by
  obtain ⟨hx, hb, hml, hown, hts, hX, hbl, hK, hZ, hT, hG, hl9⟩ := C0
  obtain ⟨hfn, hqn, h01, -, -⟩ := id hR
  have hbA : ¬ (fun q : Nat => s.heap.size ≤ q) b := Nat.not_le.mpr hbl
  have hA : ∀ q : Nat, s.heap.size ≤ q → (fun q : Nat => s.heap.size ≤ q) q := fun _ z => z
  refine lv_aload_n hx hb dL_law_210 rfl (lv_at hl 1 rfl) ?_
  refine lv_aload_n hx hb dL_law_211 rfl (lv_at hl 0 rfl) ?_
  refine lv_iload hx hb dL_law_212 (lv_at hl 4 rfl) ?_
  refine lv_iconst (v := nI 1) hx hb dL_law_214 (by decide) ?_
  refine lv_iadd hx hb dL_law_215 ?_
  refine oo_topI (y := nI ((5 * n) + 1)) (nI_add _ _) ?_
  refine va_sld hx hb hX hbl hbA hS (vp_in_nI (by omega) (by omega)) dL_law_216 ?_
  refine oo_topI (y := xs ((5 * n) + 1)) (congrArg xs (nI_clamp (by omega))) ?_
  refine lv_aload_n hx hb dL_law_217 rfl (lv_at hl 0 rfl) ?_
  refine lv_iload hx hb dL_law_218 (lv_at hl 4 rfl) ?_
  refine lv_iconst (v := nI 2) hx hb dL_law_220 (by decide) ?_
  refine lv_iadd hx hb dL_law_221 ?_
  refine oo_topI (y := nI ((5 * n) + 2)) (nI_add _ _) ?_
  refine va_sld hx hb hX hbl hbA hS (vp_in_nI (by omega) (by omega)) dL_law_222 ?_
  refine oo_topI (y := xs ((5 * n) + 2)) (congrArg xs (nI_clamp (by omega))) ?_
  refine mu_calli (va_runV (As := [.int (xs ((5 * n) + 1)), .int (xs ((5 * n) + 2))]) (rest := []) ⟨hx, hb, hml, hown, hts⟩ (kX0_set l D cJ h a1 a2 a3 a4 a5 u d lw uw an fn qn sd (xs ((5 * n) + 1)) (xs ((5 * n) + 2)) _) (cwV 2 hts gL_law_X0_set rfl rfl rfl ok_X0_set ⟨Nat.le_of_ble_eq_true rfl, Nat.le_of_ble_eq_true rfl⟩) ⟨oo_blindM, va_recv hK hP (ci := 0) (q0 := 0) rfl rfl, oo_psM hP hD hK [0, 1, 2, 3, 4, 5] rfl rfl [0] rfl⟩ rfl rfl hl.1 rfl (lv_room (Nat.le_of_ble_eq_true rfl)) dL_law_223 hcs0) hP hD hS hA [0, 1, 2, 3, 4, 5] rfl (oo_fc (oo_fc (oo_fc (oo_fc (oo_fc (oo_fc rfl)))))) (fun H locs hP hD hS => ?_)
  have hP : va_P D vwCl (lW cI cJ cZ h a1 a2 a3 a4 a5 hm b1 b2 b3 o u d lw uw (kvX0_set_an an fn qn (xs ((5 * n) + 1)) (xs ((5 * n) + 2))) (nI fn) (kvX0_set_qc fn qn (xs ((5 * n) + 1)) (xs ((5 * n) + 2))) sd mu md tr (nI fn) (nI qn) sd th f) H := hP
  have hD : va_D _ (lW cI cJ cZ h a1 a2 a3 a4 a5 hm b1 b2 b3 o u d lw uw (kvX0_set_an an fn qn (xs ((5 * n) + 1)) (xs ((5 * n) + 2))) (nI fn) (kvX0_set_qc fn qn (xs ((5 * n) + 1)) (xs ((5 * n) + 2))) sd mu md tr (nI fn) (nI qn) sd th f) := hD
  refine lv_aload_n hx hb dL_law_226 rfl (lv_at hl 2 rfl) ?_
  refine lv_aload_n hx hb dL_law_227 rfl (lv_at hl 0 rfl) ?_
  refine lv_iload hx hb dL_law_228 (lv_at hl 4 rfl) ?_
  refine lv_iconst (v := nI 1) hx hb dL_law_230 (by decide) ?_
  refine lv_iadd hx hb dL_law_231 ?_
  refine oo_topI (y := nI ((5 * n) + 1)) (nI_add _ _) ?_
  refine va_sld hx hb hX hbl hbA hS (vp_in_nI (by omega) (by omega)) dL_law_232 ?_
  refine oo_topI (y := xs ((5 * n) + 1)) (congrArg xs (nI_clamp (by omega))) ?_
  refine lv_aload_n hx hb dL_law_233 rfl (lv_at hl 0 rfl) ?_
  refine lv_iload hx hb dL_law_234 (lv_at hl 4 rfl) ?_
  refine lv_iconst (v := nI 2) hx hb dL_law_236 (by decide) ?_
  refine lv_iadd hx hb dL_law_237 ?_
  refine oo_topI (y := nI ((5 * n) + 2)) (nI_add _ _) ?_
  refine va_sld hx hb hX hbl hbA hS (vp_in_nI (by omega) (by omega)) dL_law_238 ?_
  refine oo_topI (y := xs ((5 * n) + 2)) (congrArg xs (nI_clamp (by omega))) ?_
  refine mu_calli (va_runV (As := [.int (xs ((5 * n) + 1)), .int (xs ((5 * n) + 2))]) (rest := [.int (kvX0_set fn qn (xs ((5 * n) + 1)) (xs ((5 * n) + 2)))]) ⟨hx, hb, hml, hown, hts⟩ (kX1_set l D cI cZ hm b1 b2 b3 mu md tr fn qn sd th (xs ((5 * n) + 1)) (xs ((5 * n) + 2)) hfn hqn _) (cwV 2 hts gL_law_X1_set rfl rfl rfl ok_X1_set ⟨Nat.le_of_ble_eq_true rfl, Nat.le_of_ble_eq_true rfl⟩) ⟨oo_blindM, va_recv hK hP (ci := 1) (q0 := 6) rfl rfl, oo_psM hP hD hK [6, 7, 8, 9] rfl rfl [1, 2] rfl⟩ rfl rfl hl.1 rfl (lv_room (Nat.le_of_ble_eq_true rfl)) dL_law_239 hcs0) hP hD hS hA [6, 7, 8, 9] rfl (oo_fc (oo_fc (oo_fc (oo_fc rfl)))) (fun H locs hP hD hS => ?_)
  have hP : va_P D vwCl (lW cI cJ cZ h a1 a2 a3 a4 a5 hm b1 b2 b3 o u d lw uw (kvX0_set_an an fn qn (xs ((5 * n) + 1)) (xs ((5 * n) + 2))) (nI fn) (kvX0_set_qc fn qn (xs ((5 * n) + 1)) (xs ((5 * n) + 2))) sd mu md (kvX1_set_tr tr fn qn (xs ((5 * n) + 1)) (xs ((5 * n) + 2))) (nI fn) (kvX1_set_qc fn qn (xs ((5 * n) + 1)) (xs ((5 * n) + 2))) sd (0 : Int32) f) H := hP
  have hD : va_D _ (lW cI cJ cZ h a1 a2 a3 a4 a5 hm b1 b2 b3 o u d lw uw (kvX0_set_an an fn qn (xs ((5 * n) + 1)) (xs ((5 * n) + 2))) (nI fn) (kvX0_set_qc fn qn (xs ((5 * n) + 1)) (xs ((5 * n) + 2))) sd mu md (kvX1_set_tr tr fn qn (xs ((5 * n) + 1)) (xs ((5 * n) + 2))) (nI fn) (kvX1_set_qc fn qn (xs ((5 * n) + 1)) (xs ((5 * n) + 2))) sd (0 : Int32) f) := hD
  refine lv_icmp_eq (tgt := 836) hx hb dL_law_242 (by decide) (fun c_242 => ?_) (fun c_242 => ?_)
  · obtain ⟨qn9, e1, e2, hR9⟩ := lm_set hR (xs (5 * n + 1)) (xs (5 * n + 2))
    have hP := Eq.mp (congrArg (fun z9 => va_P D vwCl (lW cI cJ cZ h a1 a2 a3 a4 a5 hm b1 b2 b3 o u d lw uw (kvX0_set_an an fn qn (xs ((5 * n) + 1)) (xs ((5 * n) + 2))) (nI fn) z9 sd mu md (kvX1_set_tr tr fn qn (xs ((5 * n) + 1)) (xs ((5 * n) + 2))) (nI fn) (kvX1_set_qc fn qn (xs ((5 * n) + 1)) (xs ((5 * n) + 2))) sd (0 : Int32) f) H) (show kvX0_set_qc fn qn (xs ((5 * n) + 1)) (xs ((5 * n) + 2)) = nI qn9 from e1)) hP
    have hP := Eq.mp (congrArg (fun z9 => va_P D vwCl (lW cI cJ cZ h a1 a2 a3 a4 a5 hm b1 b2 b3 o u d lw uw (kvX0_set_an an fn qn (xs ((5 * n) + 1)) (xs ((5 * n) + 2))) (nI fn) (nI qn9) sd mu md (kvX1_set_tr tr fn qn (xs ((5 * n) + 1)) (xs ((5 * n) + 2))) (nI fn) z9 sd (0 : Int32) f) H) (show kvX1_set_qc fn qn (xs ((5 * n) + 1)) (xs ((5 * n) + 2)) = nI qn9 from e2)) hP
    have hP : va_P D vwCl (lW cI cJ cZ h a1 a2 a3 a4 a5 hm b1 b2 b3 o u d lw uw (kvX0_set_an an fn qn (xs ((5 * n) + 1)) (xs ((5 * n) + 2))) (nI fn) (nI qn9) sd mu md (kvX1_set_tr tr fn qn (xs ((5 * n) + 1)) (xs ((5 * n) + 2))) (nI fn) (nI qn9) sd (0 : Int32) f) H := hP
    have hD : va_D _ (lW cI cJ cZ h a1 a2 a3 a4 a5 hm b1 b2 b3 o u d lw uw (kvX0_set_an an fn qn (xs ((5 * n) + 1)) (xs ((5 * n) + 2))) (nI fn) (nI qn9) sd mu md (kvX1_set_tr tr fn qn (xs ((5 * n) + 1)) (xs ((5 * n) + 2))) (nI fn) (nI qn9) sd (0 : Int32) f) := oo_Dre hD (oo_fc (oo_fc (oo_fc (oo_fc (oo_fc (oo_fc (oo_fc (oo_fc (oo_fc (oo_fc (oo_fc rfl)))))))))))
    refine W.widen (k := cells + 1) (n := slots + 6) (by omega) (by omega) ?_
    exact kk u d lw uw (kvX0_set_an an fn qn (xs ((5 * n) + 1)) (xs ((5 * n) + 2))) mu md (kvX1_set_tr tr fn qn (xs ((5 * n) + 1)) (xs ((5 * n) + 2))) fn qn9 sd (0 : Int32) f H locs ls hR9 hP hD hS (lv_sub hl [0, 1, 2, 3, 4] rfl)
  · exact absurd (lm_set_v hR _ _) c_242
set_option maxHeartbeats 4000000 in
set_option maxRecDepth 100000 in
theorem lw_c3 {p : Program} {l : Launch} {e : Env} {s : State} {m : MethodId} {below : List Frame} {meth : Method} {c : Code} {b L : Nat} {xs : Nat → Int32} {D : va_G} {cI cJ cZ : ClassId} {h a1 a2 a3 a4 a5 hm b1 b2 b3 o t sa : Nat} {cells slots : Nat} {Q : State → Prop} (hL : L ≤ 2560) (C0 : lw_Cx p l s m meth c b L xs D cI cJ cZ t sa) (n : Nat) (hn : 5 * n + 5 ≤ L) (hcs0 : cells ≤ room_1.cells ∧ slots ≤ room_1.slots) (hcs6 : cells + 1 ≤ room_1.cells ∧ slots + 6 ≤ room_1.slots)
    (kk : ∀ (u d lw uw an : Nat → Int64) (mu md tr : Nat → Int32) (fn qn : Nat) (sd : Int64) (th : Int32) (f : Nat → Int64) (H : Heap) (locs : List Loc) (ls : Array Slot), rl fn qn u d lw uw an mu md tr → va_P D vwCl (lW cI cJ cZ h a1 a2 a3 a4 a5 hm b1 b2 b3 o u d lw uw an (nI fn) (nI qn) sd mu md tr (nI fn) (nI qn) sd th f) H → va_D (fun q : Nat => s.heap.size ≤ q) (lW cI cJ cZ h a1 a2 a3 a4 a5 hm b1 b2 b3 o u d lw uw an (nI fn) (nI qn) sd mu md tr (nI fn) (nI qn) sd th f) → va_S (fun q : Nat => s.heap.size ≤ q) s.heap H locs → lv_has ls 9 [(0, .ref b), (1, .ref h), (2, .ref hm), (3, .ref o), (4, .int (nI (5 * n)))] → W p l e room_1 s m #[Value.ref b] below meth c H locs (cells + 1) (slots + 6) Q (F0 m 836 ls []))
    (u d lw uw an : Nat → Int64) (mu md tr : Nat → Int32) (fn qn : Nat) (sd : Int64) (th : Int32) (f : Nat → Int64) (H : Heap) (locs : List Loc) (ls : Array Slot) (hR : rl fn qn u d lw uw an mu md tr) (hP : va_P D vwCl (lW cI cJ cZ h a1 a2 a3 a4 a5 hm b1 b2 b3 o u d lw uw an (nI fn) (nI qn) sd mu md tr (nI fn) (nI qn) sd th f) H) (hD : va_D (fun q : Nat => s.heap.size ≤ q) (lW cI cJ cZ h a1 a2 a3 a4 a5 hm b1 b2 b3 o u d lw uw an (nI fn) (nI qn) sd mu md tr (nI fn) (nI qn) sd th f)) (hS : va_S (fun q : Nat => s.heap.size ≤ q) s.heap H locs) (hl : lv_has ls 9 [(0, .ref b), (1, .ref h), (2, .ref hm), (3, .ref o), (4, .int (nI (5 * n)))]) : W p l e room_1 s m #[Value.ref b] below meth c H locs cells slots Q (F0 m 247 ls []) := by
  obtain ⟨hx, hb, hml, hown, hts, hX, hbl, hK, hZ, hT, hG, hl9⟩ := C0
  obtain ⟨hfn, hqn, h01, -, -⟩ := id hR
  have hbA : ¬ (fun q : Nat => s.heap.size ≤ q) b := Nat.not_le.mpr hbl
  have hA : ∀ q : Nat, s.heap.size ≤ q → (fun q : Nat => s.heap.size ≤ q) q := fun _ z => z
  refine lv_aload_n hx hb dL_law_247 rfl (lv_at hl 1 rfl) ?_
  refine lv_aload_n hx hb dL_law_248 rfl (lv_at hl 0 rfl) ?_
  refine lv_iload hx hb dL_law_249 (lv_at hl 4 rfl) ?_
  refine lv_iconst (v := nI 1) hx hb dL_law_251 (by decide) ?_
  refine lv_iadd hx hb dL_law_252 ?_
  refine oo_topI (y := nI ((5 * n) + 1)) (nI_add _ _) ?_
  refine va_sld hx hb hX hbl hbA hS (vp_in_nI (by omega) (by omega)) dL_law_253 ?_
  refine oo_topI (y := xs ((5 * n) + 1)) (congrArg xs (nI_clamp (by omega))) ?_
  refine lv_aload_n hx hb dL_law_254 rfl (lv_at hl 0 rfl) ?_
  refine lv_iload hx hb dL_law_255 (lv_at hl 4 rfl) ?_
  refine lv_iconst (v := nI 2) hx hb dL_law_257 (by decide) ?_
  refine lv_iadd hx hb dL_law_258 ?_
  refine oo_topI (y := nI ((5 * n) + 2)) (nI_add _ _) ?_
  refine va_sld hx hb hX hbl hbA hS (vp_in_nI (by omega) (by omega)) dL_law_259 ?_
  refine oo_topI (y := xs ((5 * n) + 2)) (congrArg xs (nI_clamp (by omega))) ?_
  refine lv_aload_n hx hb dL_law_260 rfl (lv_at hl 0 rfl) ?_
  refine lv_iload hx hb dL_law_261 (lv_at hl 4 rfl) ?_
  refine lv_iconst (v := nI 3) hx hb dL_law_263 (by decide) ?_
  refine lv_iadd hx hb dL_law_264 ?_
  refine oo_topI (y := nI ((5 * n) + 3)) (nI_add _ _) ?_
  refine va_sld hx hb hX hbl hbA hS (vp_in_nI (by omega) (by omega)) dL_law_265 ?_
  refine oo_topI (y := xs ((5 * n) + 3)) (congrArg xs (nI_clamp (by omega))) ?_
  refine mu_calli (va_runV (As := [.int (xs ((5 * n) + 1)), .int (xs ((5 * n) + 2)), .int (xs ((5 * n) + 3))]) (rest := []) ⟨hx, hb, hml, hown, hts⟩ (kX0_join l D cJ h a1 a2 a3 a4 a5 u d lw uw an fn qn sd (xs ((5 * n) + 1)) (xs ((5 * n) + 2)) (xs ((5 * n) + 3)) _) (cwV 3 hts gL_law_X0_join rfl rfl rfl ok_X0_join ⟨Nat.le_of_ble_eq_true rfl, Nat.le_of_ble_eq_true rfl⟩) ⟨oo_blindM, va_recv hK hP (ci := 0) (q0 := 0) rfl rfl, oo_psM hP hD hK [0, 1, 2, 3, 4, 5] rfl rfl [0] rfl⟩ rfl rfl hl.1 rfl (lv_room (Nat.le_of_ble_eq_true rfl)) dL_law_266 hcs0) hP hD hS hA [0, 1, 2, 3, 4, 5] rfl (oo_fc (oo_fc (oo_fc (oo_fc (oo_fc (oo_fc rfl)))))) (fun H locs hP hD hS => ?_)
  have hP : va_P D vwCl (lW cI cJ cZ h a1 a2 a3 a4 a5 hm b1 b2 b3 o u d lw uw (kvX0_join_an an qn (xs ((5 * n) + 1)) (xs ((5 * n) + 2)) (xs ((5 * n) + 3))) (nI fn) (kvX0_join_qc qn (xs ((5 * n) + 1)) (xs ((5 * n) + 2)) (xs ((5 * n) + 3))) sd mu md tr (nI fn) (nI qn) sd th f) H := hP
  have hD : va_D _ (lW cI cJ cZ h a1 a2 a3 a4 a5 hm b1 b2 b3 o u d lw uw (kvX0_join_an an qn (xs ((5 * n) + 1)) (xs ((5 * n) + 2)) (xs ((5 * n) + 3))) (nI fn) (kvX0_join_qc qn (xs ((5 * n) + 1)) (xs ((5 * n) + 2)) (xs ((5 * n) + 3))) sd mu md tr (nI fn) (nI qn) sd th f) := hD
  refine lv_aload_n hx hb dL_law_269 rfl (lv_at hl 2 rfl) ?_
  refine lv_aload_n hx hb dL_law_270 rfl (lv_at hl 0 rfl) ?_
  refine lv_iload hx hb dL_law_271 (lv_at hl 4 rfl) ?_
  refine lv_iconst (v := nI 1) hx hb dL_law_273 (by decide) ?_
  refine lv_iadd hx hb dL_law_274 ?_
  refine oo_topI (y := nI ((5 * n) + 1)) (nI_add _ _) ?_
  refine va_sld hx hb hX hbl hbA hS (vp_in_nI (by omega) (by omega)) dL_law_275 ?_
  refine oo_topI (y := xs ((5 * n) + 1)) (congrArg xs (nI_clamp (by omega))) ?_
  refine lv_aload_n hx hb dL_law_276 rfl (lv_at hl 0 rfl) ?_
  refine lv_iload hx hb dL_law_277 (lv_at hl 4 rfl) ?_
  refine lv_iconst (v := nI 2) hx hb dL_law_279 (by decide) ?_
  refine lv_iadd hx hb dL_law_280 ?_
  refine oo_topI (y := nI ((5 * n) + 2)) (nI_add _ _) ?_
  refine va_sld hx hb hX hbl hbA hS (vp_in_nI (by omega) (by omega)) dL_law_281 ?_
  refine oo_topI (y := xs ((5 * n) + 2)) (congrArg xs (nI_clamp (by omega))) ?_
  refine lv_aload_n hx hb dL_law_282 rfl (lv_at hl 0 rfl) ?_
  refine lv_iload hx hb dL_law_283 (lv_at hl 4 rfl) ?_
  refine lv_iconst (v := nI 3) hx hb dL_law_285 (by decide) ?_
  refine lv_iadd hx hb dL_law_286 ?_
  refine oo_topI (y := nI ((5 * n) + 3)) (nI_add _ _) ?_
  refine va_sld hx hb hX hbl hbA hS (vp_in_nI (by omega) (by omega)) dL_law_287 ?_
  refine oo_topI (y := xs ((5 * n) + 3)) (congrArg xs (nI_clamp (by omega))) ?_
  refine mu_calli (va_runV (As := [.int (xs ((5 * n) + 1)), .int (xs ((5 * n) + 2)), .int (xs ((5 * n) + 3))]) (rest := [.int (kvX0_join qn (xs ((5 * n) + 1)) (xs ((5 * n) + 2)) (xs ((5 * n) + 3)))]) ⟨hx, hb, hml, hown, hts⟩ (kX1_join l D cI cZ hm b1 b2 b3 mu md tr fn qn sd th (xs ((5 * n) + 1)) (xs ((5 * n) + 2)) (xs ((5 * n) + 3)) hfn hqn h01 _) (cwV 3 hts gL_law_X1_join rfl rfl rfl ok_X1_join ⟨Nat.le_of_ble_eq_true rfl, Nat.le_of_ble_eq_true rfl⟩) ⟨oo_blindM, va_recv hK hP (ci := 1) (q0 := 6) rfl rfl, oo_psM hP hD hK [6, 7, 8, 9] rfl rfl [1, 2] rfl⟩ rfl rfl hl.1 rfl (lv_room (Nat.le_of_ble_eq_true rfl)) dL_law_288 hcs0) hP hD hS hA [6, 7, 8, 9] rfl (oo_fc (oo_fc (oo_fc (oo_fc rfl)))) (fun H locs hP hD hS => ?_)
  have hP : va_P D vwCl (lW cI cJ cZ h a1 a2 a3 a4 a5 hm b1 b2 b3 o u d lw uw (kvX0_join_an an qn (xs ((5 * n) + 1)) (xs ((5 * n) + 2)) (xs ((5 * n) + 3))) (nI fn) (kvX0_join_qc qn (xs ((5 * n) + 1)) (xs ((5 * n) + 2)) (xs ((5 * n) + 3))) sd mu md (kvX1_join_tr tr qn (xs ((5 * n) + 1)) (xs ((5 * n) + 2)) (xs ((5 * n) + 3))) (nI fn) (kvX1_join_qc qn (xs ((5 * n) + 1)) (xs ((5 * n) + 2)) (xs ((5 * n) + 3))) sd (0 : Int32) f) H := hP
  have hD : va_D _ (lW cI cJ cZ h a1 a2 a3 a4 a5 hm b1 b2 b3 o u d lw uw (kvX0_join_an an qn (xs ((5 * n) + 1)) (xs ((5 * n) + 2)) (xs ((5 * n) + 3))) (nI fn) (kvX0_join_qc qn (xs ((5 * n) + 1)) (xs ((5 * n) + 2)) (xs ((5 * n) + 3))) sd mu md (kvX1_join_tr tr qn (xs ((5 * n) + 1)) (xs ((5 * n) + 2)) (xs ((5 * n) + 3))) (nI fn) (kvX1_join_qc qn (xs ((5 * n) + 1)) (xs ((5 * n) + 2)) (xs ((5 * n) + 3))) sd (0 : Int32) f) := hD
  refine lv_icmp_eq (tgt := 836) hx hb dL_law_291 (by decide) (fun c_291 => ?_) (fun c_291 => ?_)
  · obtain ⟨qn9, e1, e2, hR9⟩ := lm_join hR (xs (5 * n + 1)) (xs (5 * n + 2)) (xs (5 * n + 3))
    have hP := Eq.mp (congrArg (fun z9 => va_P D vwCl (lW cI cJ cZ h a1 a2 a3 a4 a5 hm b1 b2 b3 o u d lw uw (kvX0_join_an an qn (xs ((5 * n) + 1)) (xs ((5 * n) + 2)) (xs ((5 * n) + 3))) (nI fn) z9 sd mu md (kvX1_join_tr tr qn (xs ((5 * n) + 1)) (xs ((5 * n) + 2)) (xs ((5 * n) + 3))) (nI fn) (kvX1_join_qc qn (xs ((5 * n) + 1)) (xs ((5 * n) + 2)) (xs ((5 * n) + 3))) sd (0 : Int32) f) H) (show kvX0_join_qc qn (xs ((5 * n) + 1)) (xs ((5 * n) + 2)) (xs ((5 * n) + 3)) = nI qn9 from e1)) hP
    have hP := Eq.mp (congrArg (fun z9 => va_P D vwCl (lW cI cJ cZ h a1 a2 a3 a4 a5 hm b1 b2 b3 o u d lw uw (kvX0_join_an an qn (xs ((5 * n) + 1)) (xs ((5 * n) + 2)) (xs ((5 * n) + 3))) (nI fn) (nI qn9) sd mu md (kvX1_join_tr tr qn (xs ((5 * n) + 1)) (xs ((5 * n) + 2)) (xs ((5 * n) + 3))) (nI fn) z9 sd (0 : Int32) f) H) (show kvX1_join_qc qn (xs ((5 * n) + 1)) (xs ((5 * n) + 2)) (xs ((5 * n) + 3)) = nI qn9 from e2)) hP
    have hP : va_P D vwCl (lW cI cJ cZ h a1 a2 a3 a4 a5 hm b1 b2 b3 o u d lw uw (kvX0_join_an an qn (xs ((5 * n) + 1)) (xs ((5 * n) + 2)) (xs ((5 * n) + 3))) (nI fn) (nI qn9) sd mu md (kvX1_join_tr tr qn (xs ((5 * n) + 1)) (xs ((5 * n) + 2)) (xs ((5 * n) + 3))) (nI fn) (nI qn9) sd (0 : Int32) f) H := hP
    have hD : va_D _ (lW cI cJ cZ h a1 a2 a3 a4 a5 hm b1 b2 b3 o u d lw uw (kvX0_join_an an qn (xs ((5 * n) + 1)) (xs ((5 * n) + 2)) (xs ((5 * n) + 3))) (nI fn) (nI qn9) sd mu md (kvX1_join_tr tr qn (xs ((5 * n) + 1)) (xs ((5 * n) + 2)) (xs ((5 * n) + 3))) (nI fn) (nI qn9) sd (0 : Int32) f) := oo_Dre hD (oo_fc (oo_fc (oo_fc (oo_fc (oo_fc (oo_fc (oo_fc (oo_fc (oo_fc (oo_fc (oo_fc rfl)))))))))))
    refine W.widen (k := cells + 1) (n := slots + 6) (by omega) (by omega) ?_
    exact kk u d lw uw (kvX0_join_an an qn (xs ((5 * n) + 1)) (xs ((5 * n) + 2)) (xs ((5 * n) + 3))) mu md (kvX1_join_tr tr qn (xs ((5 * n) + 1)) (xs ((5 * n) + 2)) (xs ((5 * n) + 3))) fn qn9 sd (0 : Int32) f H locs ls hR9 hP hD hS (lv_sub hl [0, 1, 2, 3, 4] rfl)
  · exact absurd (lm_join_v hR _ _ _) c_291
set_option maxHeartbeats 4000000 in
set_option maxRecDepth 100000 in
theorem lw_c4 {p : Program} {l : Launch} {e : Env} {s : State} {m : MethodId} {below : List Frame} {meth : Method} {c : Code} {b L : Nat} {xs : Nat → Int32} {D : va_G} {cI cJ cZ : ClassId} {h a1 a2 a3 a4 a5 hm b1 b2 b3 o t sa : Nat} {cells slots : Nat} {Q : State → Prop} (hL : L ≤ 2560) (C0 : lw_Cx p l s m meth c b L xs D cI cJ cZ t sa) (n : Nat) (hn : 5 * n + 5 ≤ L) (hcs0 : cells ≤ room_1.cells ∧ slots ≤ room_1.slots) (hcs6 : cells + 1 ≤ room_1.cells ∧ slots + 6 ≤ room_1.slots)
    (kk : ∀ (u d lw uw an : Nat → Int64) (mu md tr : Nat → Int32) (fn qn : Nat) (sd : Int64) (th : Int32) (f : Nat → Int64) (H : Heap) (locs : List Loc) (ls : Array Slot), rl fn qn u d lw uw an mu md tr → va_P D vwCl (lW cI cJ cZ h a1 a2 a3 a4 a5 hm b1 b2 b3 o u d lw uw an (nI fn) (nI qn) sd mu md tr (nI fn) (nI qn) sd th f) H → va_D (fun q : Nat => s.heap.size ≤ q) (lW cI cJ cZ h a1 a2 a3 a4 a5 hm b1 b2 b3 o u d lw uw an (nI fn) (nI qn) sd mu md tr (nI fn) (nI qn) sd th f) → va_S (fun q : Nat => s.heap.size ≤ q) s.heap H locs → lv_has ls 9 [(0, .ref b), (1, .ref h), (2, .ref hm), (3, .ref o), (4, .int (nI (5 * n)))] → W p l e room_1 s m #[Value.ref b] below meth c H locs (cells + 1) (slots + 6) Q (F0 m 836 ls []))
    (u d lw uw an : Nat → Int64) (mu md tr : Nat → Int32) (fn qn : Nat) (sd : Int64) (th : Int32) (f : Nat → Int64) (H : Heap) (locs : List Loc) (ls : Array Slot) (hR : rl fn qn u d lw uw an mu md tr) (hP : va_P D vwCl (lW cI cJ cZ h a1 a2 a3 a4 a5 hm b1 b2 b3 o u d lw uw an (nI fn) (nI qn) sd mu md tr (nI fn) (nI qn) sd th f) H) (hD : va_D (fun q : Nat => s.heap.size ≤ q) (lW cI cJ cZ h a1 a2 a3 a4 a5 hm b1 b2 b3 o u d lw uw an (nI fn) (nI qn) sd mu md tr (nI fn) (nI qn) sd th f)) (hS : va_S (fun q : Nat => s.heap.size ≤ q) s.heap H locs) (hl : lv_has ls 9 [(0, .ref b), (1, .ref h), (2, .ref hm), (3, .ref o), (4, .int (nI (5 * n)))]) : W p l e room_1 s m #[Value.ref b] below meth c H locs cells slots Q (F0 m 296 ls []) := by
  obtain ⟨hx, hb, hml, hown, hts, hX, hbl, hK, hZ, hT, hG, hl9⟩ := C0
  obtain ⟨hfn, hqn, h01, -, -⟩ := id hR
  have hbA : ¬ (fun q : Nat => s.heap.size ≤ q) b := Nat.not_le.mpr hbl
  have hA : ∀ q : Nat, s.heap.size ≤ q → (fun q : Nat => s.heap.size ≤ q) q := fun _ z => z
  refine lv_aload_n hx hb dL_law_296 rfl (lv_at hl 1 rfl) ?_
  refine lv_aload_n hx hb dL_law_297 rfl (lv_at hl 0 rfl) ?_
  refine lv_iload hx hb dL_law_298 (lv_at hl 4 rfl) ?_
  refine lv_iconst (v := nI 1) hx hb dL_law_300 (by decide) ?_
  refine lv_iadd hx hb dL_law_301 ?_
  refine oo_topI (y := nI ((5 * n) + 1)) (nI_add _ _) ?_
  refine va_sld hx hb hX hbl hbA hS (vp_in_nI (by omega) (by omega)) dL_law_302 ?_
  refine oo_topI (y := xs ((5 * n) + 1)) (congrArg xs (nI_clamp (by omega))) ?_
  refine lv_aload_n hx hb dL_law_303 rfl (lv_at hl 0 rfl) ?_
  refine lv_iload hx hb dL_law_304 (lv_at hl 4 rfl) ?_
  refine lv_iconst (v := nI 2) hx hb dL_law_306 (by decide) ?_
  refine lv_iadd hx hb dL_law_307 ?_
  refine oo_topI (y := nI ((5 * n) + 2)) (nI_add _ _) ?_
  refine va_sld hx hb hX hbl hbA hS (vp_in_nI (by omega) (by omega)) dL_law_308 ?_
  refine oo_topI (y := xs ((5 * n) + 2)) (congrArg xs (nI_clamp (by omega))) ?_
  refine lv_aload_n hx hb dL_law_309 rfl (lv_at hl 0 rfl) ?_
  refine lv_iload hx hb dL_law_310 (lv_at hl 4 rfl) ?_
  refine lv_iconst (v := nI 3) hx hb dL_law_312 (by decide) ?_
  refine lv_iadd hx hb dL_law_313 ?_
  refine oo_topI (y := nI ((5 * n) + 3)) (nI_add _ _) ?_
  refine va_sld hx hb hX hbl hbA hS (vp_in_nI (by omega) (by omega)) dL_law_314 ?_
  refine oo_topI (y := xs ((5 * n) + 3)) (congrArg xs (nI_clamp (by omega))) ?_
  refine mu_calli (va_runV (As := [.int (xs ((5 * n) + 1)), .int (xs ((5 * n) + 2)), .int (xs ((5 * n) + 3))]) (rest := []) ⟨hx, hb, hml, hown, hts⟩ (kX0_some l D cJ h a1 a2 a3 a4 a5 u d lw uw an fn qn sd (xs ((5 * n) + 1)) (xs ((5 * n) + 2)) (xs ((5 * n) + 3)) _) (cwV 3 hts gL_law_X0_some rfl rfl rfl ok_X0_some ⟨Nat.le_of_ble_eq_true rfl, Nat.le_of_ble_eq_true rfl⟩) ⟨oo_blindM, va_recv hK hP (ci := 0) (q0 := 0) rfl rfl, oo_psM hP hD hK [0, 1, 2, 3, 4, 5] rfl rfl [0] rfl⟩ rfl rfl hl.1 rfl (lv_room (Nat.le_of_ble_eq_true rfl)) dL_law_315 hcs0) hP hD hS hA [0, 1, 2, 3, 4, 5] rfl (oo_fc (oo_fc (oo_fc (oo_fc (oo_fc (oo_fc rfl)))))) (fun H locs hP hD hS => ?_)
  have hP : va_P D vwCl (lW cI cJ cZ h a1 a2 a3 a4 a5 hm b1 b2 b3 o u d lw uw (kvX0_some_an an fn qn (xs ((5 * n) + 1)) (xs ((5 * n) + 2)) (xs ((5 * n) + 3))) (nI fn) (kvX0_some_qc fn qn (xs ((5 * n) + 1))) sd mu md tr (nI fn) (nI qn) sd th f) H := hP
  have hD : va_D _ (lW cI cJ cZ h a1 a2 a3 a4 a5 hm b1 b2 b3 o u d lw uw (kvX0_some_an an fn qn (xs ((5 * n) + 1)) (xs ((5 * n) + 2)) (xs ((5 * n) + 3))) (nI fn) (kvX0_some_qc fn qn (xs ((5 * n) + 1))) sd mu md tr (nI fn) (nI qn) sd th f) := hD
  refine lv_aload_n hx hb dL_law_318 rfl (lv_at hl 2 rfl) ?_
  refine lv_aload_n hx hb dL_law_319 rfl (lv_at hl 0 rfl) ?_
  refine lv_iload hx hb dL_law_320 (lv_at hl 4 rfl) ?_
  refine lv_iconst (v := nI 1) hx hb dL_law_322 (by decide) ?_
  refine lv_iadd hx hb dL_law_323 ?_
  refine oo_topI (y := nI ((5 * n) + 1)) (nI_add _ _) ?_
  refine va_sld hx hb hX hbl hbA hS (vp_in_nI (by omega) (by omega)) dL_law_324 ?_
  refine oo_topI (y := xs ((5 * n) + 1)) (congrArg xs (nI_clamp (by omega))) ?_
  refine lv_aload_n hx hb dL_law_325 rfl (lv_at hl 0 rfl) ?_
  refine lv_iload hx hb dL_law_326 (lv_at hl 4 rfl) ?_
  refine lv_iconst (v := nI 2) hx hb dL_law_328 (by decide) ?_
  refine lv_iadd hx hb dL_law_329 ?_
  refine oo_topI (y := nI ((5 * n) + 2)) (nI_add _ _) ?_
  refine va_sld hx hb hX hbl hbA hS (vp_in_nI (by omega) (by omega)) dL_law_330 ?_
  refine oo_topI (y := xs ((5 * n) + 2)) (congrArg xs (nI_clamp (by omega))) ?_
  refine lv_aload_n hx hb dL_law_331 rfl (lv_at hl 0 rfl) ?_
  refine lv_iload hx hb dL_law_332 (lv_at hl 4 rfl) ?_
  refine lv_iconst (v := nI 3) hx hb dL_law_334 (by decide) ?_
  refine lv_iadd hx hb dL_law_335 ?_
  refine oo_topI (y := nI ((5 * n) + 3)) (nI_add _ _) ?_
  refine va_sld hx hb hX hbl hbA hS (vp_in_nI (by omega) (by omega)) dL_law_336 ?_
  refine oo_topI (y := xs ((5 * n) + 3)) (congrArg xs (nI_clamp (by omega))) ?_
  refine mu_calli (va_runV (As := [.int (xs ((5 * n) + 1)), .int (xs ((5 * n) + 2)), .int (xs ((5 * n) + 3))]) (rest := [.int (kvX0_some fn qn (xs ((5 * n) + 1)))]) ⟨hx, hb, hml, hown, hts⟩ (kX1_some l D cI cZ hm b1 b2 b3 mu md tr fn qn sd th (xs ((5 * n) + 1)) (xs ((5 * n) + 2)) (xs ((5 * n) + 3)) hfn hqn _) (cwV 3 hts gL_law_X1_some rfl rfl rfl ok_X1_some ⟨Nat.le_of_ble_eq_true rfl, Nat.le_of_ble_eq_true rfl⟩) ⟨oo_blindM, va_recv hK hP (ci := 1) (q0 := 6) rfl rfl, oo_psM hP hD hK [6, 7, 8, 9] rfl rfl [1, 2] rfl⟩ rfl rfl hl.1 rfl (lv_room (Nat.le_of_ble_eq_true rfl)) dL_law_337 hcs0) hP hD hS hA [6, 7, 8, 9] rfl (oo_fc (oo_fc (oo_fc (oo_fc rfl)))) (fun H locs hP hD hS => ?_)
  have hP : va_P D vwCl (lW cI cJ cZ h a1 a2 a3 a4 a5 hm b1 b2 b3 o u d lw uw (kvX0_some_an an fn qn (xs ((5 * n) + 1)) (xs ((5 * n) + 2)) (xs ((5 * n) + 3))) (nI fn) (kvX0_some_qc fn qn (xs ((5 * n) + 1))) sd mu md (kvX1_some_tr tr fn qn (xs ((5 * n) + 1)) (xs ((5 * n) + 2)) (xs ((5 * n) + 3))) (nI fn) (kvX1_some_qc fn qn (xs ((5 * n) + 1))) sd (0 : Int32) f) H := hP
  have hD : va_D _ (lW cI cJ cZ h a1 a2 a3 a4 a5 hm b1 b2 b3 o u d lw uw (kvX0_some_an an fn qn (xs ((5 * n) + 1)) (xs ((5 * n) + 2)) (xs ((5 * n) + 3))) (nI fn) (kvX0_some_qc fn qn (xs ((5 * n) + 1))) sd mu md (kvX1_some_tr tr fn qn (xs ((5 * n) + 1)) (xs ((5 * n) + 2)) (xs ((5 * n) + 3))) (nI fn) (kvX1_some_qc fn qn (xs ((5 * n) + 1))) sd (0 : Int32) f) := hD
  refine lv_icmp_eq (tgt := 836) hx hb dL_law_340 (by decide) (fun c_340 => ?_) (fun c_340 => ?_)
  · obtain ⟨qn9, e1, e2, hR9⟩ := lm_some hR (xs (5 * n + 1)) (xs (5 * n + 2)) (xs (5 * n + 3))
    have hP := Eq.mp (congrArg (fun z9 => va_P D vwCl (lW cI cJ cZ h a1 a2 a3 a4 a5 hm b1 b2 b3 o u d lw uw (kvX0_some_an an fn qn (xs ((5 * n) + 1)) (xs ((5 * n) + 2)) (xs ((5 * n) + 3))) (nI fn) z9 sd mu md (kvX1_some_tr tr fn qn (xs ((5 * n) + 1)) (xs ((5 * n) + 2)) (xs ((5 * n) + 3))) (nI fn) (kvX1_some_qc fn qn (xs ((5 * n) + 1))) sd (0 : Int32) f) H) (show kvX0_some_qc fn qn (xs ((5 * n) + 1)) = nI qn9 from e1)) hP
    have hP := Eq.mp (congrArg (fun z9 => va_P D vwCl (lW cI cJ cZ h a1 a2 a3 a4 a5 hm b1 b2 b3 o u d lw uw (kvX0_some_an an fn qn (xs ((5 * n) + 1)) (xs ((5 * n) + 2)) (xs ((5 * n) + 3))) (nI fn) (nI qn9) sd mu md (kvX1_some_tr tr fn qn (xs ((5 * n) + 1)) (xs ((5 * n) + 2)) (xs ((5 * n) + 3))) (nI fn) z9 sd (0 : Int32) f) H) (show kvX1_some_qc fn qn (xs ((5 * n) + 1)) = nI qn9 from e2)) hP
    have hP : va_P D vwCl (lW cI cJ cZ h a1 a2 a3 a4 a5 hm b1 b2 b3 o u d lw uw (kvX0_some_an an fn qn (xs ((5 * n) + 1)) (xs ((5 * n) + 2)) (xs ((5 * n) + 3))) (nI fn) (nI qn9) sd mu md (kvX1_some_tr tr fn qn (xs ((5 * n) + 1)) (xs ((5 * n) + 2)) (xs ((5 * n) + 3))) (nI fn) (nI qn9) sd (0 : Int32) f) H := hP
    have hD : va_D _ (lW cI cJ cZ h a1 a2 a3 a4 a5 hm b1 b2 b3 o u d lw uw (kvX0_some_an an fn qn (xs ((5 * n) + 1)) (xs ((5 * n) + 2)) (xs ((5 * n) + 3))) (nI fn) (nI qn9) sd mu md (kvX1_some_tr tr fn qn (xs ((5 * n) + 1)) (xs ((5 * n) + 2)) (xs ((5 * n) + 3))) (nI fn) (nI qn9) sd (0 : Int32) f) := oo_Dre hD (oo_fc (oo_fc (oo_fc (oo_fc (oo_fc (oo_fc (oo_fc (oo_fc (oo_fc (oo_fc (oo_fc rfl)))))))))))
    refine W.widen (k := cells + 1) (n := slots + 6) (by omega) (by omega) ?_
    exact kk u d lw uw (kvX0_some_an an fn qn (xs ((5 * n) + 1)) (xs ((5 * n) + 2)) (xs ((5 * n) + 3))) mu md (kvX1_some_tr tr fn qn (xs ((5 * n) + 1)) (xs ((5 * n) + 2)) (xs ((5 * n) + 3))) fn qn9 sd (0 : Int32) f H locs ls hR9 hP hD hS (lv_sub hl [0, 1, 2, 3, 4] rfl)
  · exact absurd (lm_some_v hR _) c_340
set_option maxHeartbeats 4000000 in
set_option maxRecDepth 100000 in
theorem lw_c5 {p : Program} {l : Launch} {e : Env} {s : State} {m : MethodId} {below : List Frame} {meth : Method} {c : Code} {b L : Nat} {xs : Nat → Int32} {D : va_G} {cI cJ cZ : ClassId} {h a1 a2 a3 a4 a5 hm b1 b2 b3 o t sa : Nat} {cells slots : Nat} {Q : State → Prop} (hL : L ≤ 2560) (C0 : lw_Cx p l s m meth c b L xs D cI cJ cZ t sa) (n : Nat) (hn : 5 * n + 5 ≤ L) (hcs0 : cells ≤ room_1.cells ∧ slots ≤ room_1.slots) (hcs6 : cells + 1 ≤ room_1.cells ∧ slots + 6 ≤ room_1.slots)
    (kk : ∀ (u d lw uw an : Nat → Int64) (mu md tr : Nat → Int32) (fn qn : Nat) (sd : Int64) (th : Int32) (f : Nat → Int64) (H : Heap) (locs : List Loc) (ls : Array Slot), rl fn qn u d lw uw an mu md tr → va_P D vwCl (lW cI cJ cZ h a1 a2 a3 a4 a5 hm b1 b2 b3 o u d lw uw an (nI fn) (nI qn) sd mu md tr (nI fn) (nI qn) sd th f) H → va_D (fun q : Nat => s.heap.size ≤ q) (lW cI cJ cZ h a1 a2 a3 a4 a5 hm b1 b2 b3 o u d lw uw an (nI fn) (nI qn) sd mu md tr (nI fn) (nI qn) sd th f) → va_S (fun q : Nat => s.heap.size ≤ q) s.heap H locs → lv_has ls 9 [(0, .ref b), (1, .ref h), (2, .ref hm), (3, .ref o), (4, .int (nI (5 * n)))] → W p l e room_1 s m #[Value.ref b] below meth c H locs (cells + 1) (slots + 6) Q (F0 m 836 ls []))
    (u d lw uw an : Nat → Int64) (mu md tr : Nat → Int32) (fn qn : Nat) (sd : Int64) (th : Int32) (f : Nat → Int64) (H : Heap) (locs : List Loc) (ls : Array Slot) (hR : rl fn qn u d lw uw an mu md tr) (hP : va_P D vwCl (lW cI cJ cZ h a1 a2 a3 a4 a5 hm b1 b2 b3 o u d lw uw an (nI fn) (nI qn) sd mu md tr (nI fn) (nI qn) sd th f) H) (hD : va_D (fun q : Nat => s.heap.size ≤ q) (lW cI cJ cZ h a1 a2 a3 a4 a5 hm b1 b2 b3 o u d lw uw an (nI fn) (nI qn) sd mu md tr (nI fn) (nI qn) sd th f)) (hS : va_S (fun q : Nat => s.heap.size ≤ q) s.heap H locs) (hl : lv_has ls 9 [(0, .ref b), (1, .ref h), (2, .ref hm), (3, .ref o), (4, .int (nI (5 * n)))]) : W p l e room_1 s m #[Value.ref b] below meth c H locs cells slots Q (F0 m 345 ls []) := by
  obtain ⟨hx, hb, hml, hown, hts, hX, hbl, hK, hZ, hT, hG, hl9⟩ := C0
  obtain ⟨hfn, hqn, h01, -, -⟩ := id hR
  have hbA : ¬ (fun q : Nat => s.heap.size ≤ q) b := Nat.not_le.mpr hbl
  have hA : ∀ q : Nat, s.heap.size ≤ q → (fun q : Nat => s.heap.size ≤ q) q := fun _ z => z
  refine lv_aload_n hx hb dL_law_345 rfl (lv_at hl 1 rfl) ?_
  refine lv_aload_n hx hb dL_law_346 rfl (lv_at hl 0 rfl) ?_
  refine lv_iload hx hb dL_law_347 (lv_at hl 4 rfl) ?_
  refine lv_iconst (v := nI 1) hx hb dL_law_349 (by decide) ?_
  refine lv_iadd hx hb dL_law_350 ?_
  refine oo_topI (y := nI ((5 * n) + 1)) (nI_add _ _) ?_
  refine va_sld hx hb hX hbl hbA hS (vp_in_nI (by omega) (by omega)) dL_law_351 ?_
  refine oo_topI (y := xs ((5 * n) + 1)) (congrArg xs (nI_clamp (by omega))) ?_
  refine lv_aload_n hx hb dL_law_352 rfl (lv_at hl 0 rfl) ?_
  refine lv_iload hx hb dL_law_353 (lv_at hl 4 rfl) ?_
  refine lv_iconst (v := nI 2) hx hb dL_law_355 (by decide) ?_
  refine lv_iadd hx hb dL_law_356 ?_
  refine oo_topI (y := nI ((5 * n) + 2)) (nI_add _ _) ?_
  refine va_sld hx hb hX hbl hbA hS (vp_in_nI (by omega) (by omega)) dL_law_357 ?_
  refine oo_topI (y := xs ((5 * n) + 2)) (congrArg xs (nI_clamp (by omega))) ?_
  refine ro_calli (va_runV (As := [.int (xs ((5 * n) + 1)), .int (xs ((5 * n) + 2))]) (rest := []) ⟨hx, hb, hml, hown, hts⟩ (kX0_holds l D cJ h a1 a2 a3 a4 a5 u d lw uw an fn qn sd (xs ((5 * n) + 1)) (xs ((5 * n) + 2))) (cwV 2 hts gL_law_X0_holds rfl rfl rfl ok_X0_holds ⟨Nat.le_of_ble_eq_true rfl, Nat.le_of_ble_eq_true rfl⟩) ⟨oo_blind, va_recv hK hP (ci := 0) (q0 := 0) rfl rfl, oo_ps hP hK [0, 1, 2, 3, 4, 5] rfl [0] rfl⟩ rfl rfl hl.1 rfl (lv_room (Nat.le_of_ble_eq_true rfl)) dL_law_358 hcs0) hP hS (fun H locs hP hS => ?_)
  refine lv_aload_n hx hb dL_law_361 rfl (lv_at hl 2 rfl) ?_
  refine lv_aload_n hx hb dL_law_362 rfl (lv_at hl 0 rfl) ?_
  refine lv_iload hx hb dL_law_363 (lv_at hl 4 rfl) ?_
  refine lv_iconst (v := nI 1) hx hb dL_law_365 (by decide) ?_
  refine lv_iadd hx hb dL_law_366 ?_
  refine oo_topI (y := nI ((5 * n) + 1)) (nI_add _ _) ?_
  refine va_sld hx hb hX hbl hbA hS (vp_in_nI (by omega) (by omega)) dL_law_367 ?_
  refine oo_topI (y := xs ((5 * n) + 1)) (congrArg xs (nI_clamp (by omega))) ?_
  refine lv_aload_n hx hb dL_law_368 rfl (lv_at hl 0 rfl) ?_
  refine lv_iload hx hb dL_law_369 (lv_at hl 4 rfl) ?_
  refine lv_iconst (v := nI 2) hx hb dL_law_371 (by decide) ?_
  refine lv_iadd hx hb dL_law_372 ?_
  refine oo_topI (y := nI ((5 * n) + 2)) (nI_add _ _) ?_
  refine va_sld hx hb hX hbl hbA hS (vp_in_nI (by omega) (by omega)) dL_law_373 ?_
  refine oo_topI (y := xs ((5 * n) + 2)) (congrArg xs (nI_clamp (by omega))) ?_
  refine mu_calli (va_runV (As := [.int (xs ((5 * n) + 1)), .int (xs ((5 * n) + 2))]) (rest := [.int (kvX0_holds an fn qn (xs ((5 * n) + 1)) (xs ((5 * n) + 2)))]) ⟨hx, hb, hml, hown, hts⟩ (kX1_holds l D cI cZ hm b1 b2 b3 mu md tr fn qn sd th (xs ((5 * n) + 1)) (xs ((5 * n) + 2)) hfn hqn h01 _) (cwV 2 hts gL_law_X1_holds rfl rfl rfl ok_X1_holds ⟨Nat.le_of_ble_eq_true rfl, Nat.le_of_ble_eq_true rfl⟩) ⟨oo_blindM, va_recv hK hP (ci := 1) (q0 := 6) rfl rfl, oo_psM hP hD hK [6, 7, 8, 9] rfl rfl [1, 2] rfl⟩ rfl rfl hl.1 rfl (lv_room (Nat.le_of_ble_eq_true rfl)) dL_law_374 hcs0) hP hD hS hA [6, 7, 8, 9] rfl (oo_fc (oo_fc (oo_fc (oo_fc rfl)))) (fun H locs hP hD hS => ?_)
  have hP : va_P D vwCl (lW cI cJ cZ h a1 a2 a3 a4 a5 hm b1 b2 b3 o u d lw uw an (nI fn) (nI qn) sd mu md tr (nI fn) (nI qn) sd (0 : Int32) f) H := hP
  have hD : va_D _ (lW cI cJ cZ h a1 a2 a3 a4 a5 hm b1 b2 b3 o u d lw uw an (nI fn) (nI qn) sd mu md tr (nI fn) (nI qn) sd (0 : Int32) f) := hD
  refine lv_icmp_eq (tgt := 836) hx hb dL_law_377 (by decide) (fun c_377 => ?_) (fun c_377 => ?_)
  · refine W.widen (k := cells + 1) (n := slots + 6) (by omega) (by omega) ?_
    exact kk u d lw uw an mu md tr fn qn sd (0 : Int32) f H locs ls hR hP hD hS (lv_sub hl [0, 1, 2, 3, 4] rfl)
  · exact absurd (lm_holds hR _ _) c_377
set_option maxHeartbeats 4000000 in
set_option maxRecDepth 100000 in
theorem lw_c6 {p : Program} {l : Launch} {e : Env} {s : State} {m : MethodId} {below : List Frame} {meth : Method} {c : Code} {b L : Nat} {xs : Nat → Int32} {D : va_G} {cI cJ cZ : ClassId} {h a1 a2 a3 a4 a5 hm b1 b2 b3 o t sa : Nat} {cells slots : Nat} {Q : State → Prop} (hL : L ≤ 2560) (C0 : lw_Cx p l s m meth c b L xs D cI cJ cZ t sa) (n : Nat) (hn : 5 * n + 5 ≤ L) (hcs0 : cells ≤ room_1.cells ∧ slots ≤ room_1.slots) (hcs6 : cells + 1 ≤ room_1.cells ∧ slots + 6 ≤ room_1.slots)
    (kk : ∀ (u d lw uw an : Nat → Int64) (mu md tr : Nat → Int32) (fn qn : Nat) (sd : Int64) (th : Int32) (f : Nat → Int64) (H : Heap) (locs : List Loc) (ls : Array Slot), rl fn qn u d lw uw an mu md tr → va_P D vwCl (lW cI cJ cZ h a1 a2 a3 a4 a5 hm b1 b2 b3 o u d lw uw an (nI fn) (nI qn) sd mu md tr (nI fn) (nI qn) sd th f) H → va_D (fun q : Nat => s.heap.size ≤ q) (lW cI cJ cZ h a1 a2 a3 a4 a5 hm b1 b2 b3 o u d lw uw an (nI fn) (nI qn) sd mu md tr (nI fn) (nI qn) sd th f) → va_S (fun q : Nat => s.heap.size ≤ q) s.heap H locs → lv_has ls 9 [(0, .ref b), (1, .ref h), (2, .ref hm), (3, .ref o), (4, .int (nI (5 * n)))] → W p l e room_1 s m #[Value.ref b] below meth c H locs (cells + 1) (slots + 6) Q (F0 m 836 ls []))
    (u d lw uw an : Nat → Int64) (mu md tr : Nat → Int32) (fn qn : Nat) (sd : Int64) (th : Int32) (f : Nat → Int64) (H : Heap) (locs : List Loc) (ls : Array Slot) (hR : rl fn qn u d lw uw an mu md tr) (hP : va_P D vwCl (lW cI cJ cZ h a1 a2 a3 a4 a5 hm b1 b2 b3 o u d lw uw an (nI fn) (nI qn) sd mu md tr (nI fn) (nI qn) sd th f) H) (hD : va_D (fun q : Nat => s.heap.size ≤ q) (lW cI cJ cZ h a1 a2 a3 a4 a5 hm b1 b2 b3 o u d lw uw an (nI fn) (nI qn) sd mu md tr (nI fn) (nI qn) sd th f)) (hS : va_S (fun q : Nat => s.heap.size ≤ q) s.heap H locs) (hl : lv_has ls 9 [(0, .ref b), (1, .ref h), (2, .ref hm), (3, .ref o), (4, .int (nI (5 * n)))]) : W p l e room_1 s m #[Value.ref b] below meth c H locs cells slots Q (F0 m 382 ls []) := by
  obtain ⟨hx, hb, hml, hown, hts, hX, hbl, hK, hZ, hT, hG, hl9⟩ := C0
  obtain ⟨hfn, hqn, h01, -, -⟩ := id hR
  have hbA : ¬ (fun q : Nat => s.heap.size ≤ q) b := Nat.not_le.mpr hbl
  have hA : ∀ q : Nat, s.heap.size ≤ q → (fun q : Nat => s.heap.size ≤ q) q := fun _ z => z
  refine lv_aload_n hx hb dL_law_382 rfl (lv_at hl 1 rfl) ?_
  refine lv_aload_n hx hb dL_law_383 rfl (lv_at hl 0 rfl) ?_
  refine lv_iload hx hb dL_law_384 (lv_at hl 4 rfl) ?_
  refine lv_iconst (v := nI 1) hx hb dL_law_386 (by decide) ?_
  refine lv_iadd hx hb dL_law_387 ?_
  refine oo_topI (y := nI ((5 * n) + 1)) (nI_add _ _) ?_
  refine va_sld hx hb hX hbl hbA hS (vp_in_nI (by omega) (by omega)) dL_law_388 ?_
  refine oo_topI (y := xs ((5 * n) + 1)) (congrArg xs (nI_clamp (by omega))) ?_
  refine lv_aload_n hx hb dL_law_389 rfl (lv_at hl 0 rfl) ?_
  refine lv_iload hx hb dL_law_390 (lv_at hl 4 rfl) ?_
  refine lv_iconst (v := nI 2) hx hb dL_law_392 (by decide) ?_
  refine lv_iadd hx hb dL_law_393 ?_
  refine oo_topI (y := nI ((5 * n) + 2)) (nI_add _ _) ?_
  refine va_sld hx hb hX hbl hbA hS (vp_in_nI (by omega) (by omega)) dL_law_394 ?_
  refine oo_topI (y := xs ((5 * n) + 2)) (congrArg xs (nI_clamp (by omega))) ?_
  refine ro_calll (va_runV (As := [.int (xs ((5 * n) + 1)), .int (xs ((5 * n) + 2))]) (rest := []) ⟨hx, hb, hml, hown, hts⟩ (kX0_chance l D cJ h a1 a2 a3 a4 a5 u d lw uw an fn qn sd (xs ((5 * n) + 1)) (xs ((5 * n) + 2)) hfn) (cwV 2 hts gL_law_X0_chance rfl rfl rfl ok_X0_chance ⟨Nat.le_of_ble_eq_true rfl, Nat.le_of_ble_eq_true rfl⟩) ⟨oo_blind, va_recv hK hP (ci := 0) (q0 := 0) rfl rfl, oo_ps hP hK [0, 1, 2, 3, 4, 5] rfl [0] rfl⟩ rfl rfl hl.1 rfl (lv_room (Nat.le_of_ble_eq_true rfl)) dL_law_395 hcs0) hP hS (fun H locs hP hS => ?_)
  refine lv_aload_n hx hb dL_law_398 rfl (lv_at hl 2 rfl) ?_
  refine lv_aload_n hx hb dL_law_399 rfl (lv_at hl 0 rfl) ?_
  refine lv_iload hx hb dL_law_400 (lv_at hl 4 rfl) ?_
  refine lv_iconst (v := nI 1) hx hb dL_law_402 (by decide) ?_
  refine lv_iadd hx hb dL_law_403 ?_
  refine oo_topI (y := nI ((5 * n) + 1)) (nI_add _ _) ?_
  refine va_sld hx hb hX hbl hbA hS (vp_in_nI (by omega) (by omega)) dL_law_404 ?_
  refine oo_topI (y := xs ((5 * n) + 1)) (congrArg xs (nI_clamp (by omega))) ?_
  refine lv_aload_n hx hb dL_law_405 rfl (lv_at hl 0 rfl) ?_
  refine lv_iload hx hb dL_law_406 (lv_at hl 4 rfl) ?_
  refine lv_iconst (v := nI 2) hx hb dL_law_408 (by decide) ?_
  refine lv_iadd hx hb dL_law_409 ?_
  refine oo_topI (y := nI ((5 * n) + 2)) (nI_add _ _) ?_
  refine va_sld hx hb hX hbl hbA hS (vp_in_nI (by omega) (by omega)) dL_law_410 ?_
  refine oo_topI (y := xs ((5 * n) + 2)) (congrArg xs (nI_clamp (by omega))) ?_
  refine mu_calll (va_runV (As := [.int (xs ((5 * n) + 1)), .int (xs ((5 * n) + 2))]) (rest := [.long (kvX0_chance d lw uw an fn qn (xs ((5 * n) + 1)) (xs ((5 * n) + 2)))]) ⟨hx, hb, hml, hown, hts⟩ (kX1_chance l D cI cZ hm b1 b2 b3 mu md tr fn qn sd th (xs ((5 * n) + 1)) (xs ((5 * n) + 2)) hfn hqn h01 (lm_gcdN hR _) (lm_gcdZ hR _) _) (cwV 2 hts gL_law_X1_chance rfl rfl rfl ok_X1_chance ⟨Nat.le_of_ble_eq_true rfl, Nat.le_of_ble_eq_true rfl⟩) ⟨oo_blindM, va_recv hK hP (ci := 1) (q0 := 6) rfl rfl, oo_psM hP hD hK [6, 7, 8, 9] rfl rfl [1, 2] rfl⟩ rfl rfl hl.1 rfl (lv_room (Nat.le_of_ble_eq_true rfl)) dL_law_411 hcs0) hP hD hS hA [6, 7, 8, 9] rfl (oo_fc (oo_fc (oo_fc (oo_fc rfl)))) (fun H locs hP hD hS => ?_)
  have hP : va_P D vwCl (lW cI cJ cZ h a1 a2 a3 a4 a5 hm b1 b2 b3 o u d lw uw an (nI fn) (nI qn) sd mu md tr (nI fn) (nI qn) sd (0 : Int32) f) H := hP
  have hD : va_D _ (lW cI cJ cZ h a1 a2 a3 a4 a5 hm b1 b2 b3 o u d lw uw an (nI fn) (nI qn) sd mu md tr (nI fn) (nI qn) sd (0 : Int32) f) := hD
  refine W.lcmp hx hb dL_law_414 ?_
  refine lv_if_eq (tgt := 836) hx hb dL_law_415 (by decide) (fun c_415 => ?_) (fun c_415 => ?_)
  · refine W.widen (k := cells + 1) (n := slots + 6) (by omega) (by omega) ?_
    exact kk u d lw uw an mu md tr fn qn sd (0 : Int32) f H locs ls hR hP hD hS (lv_sub hl [0, 1, 2, 3, 4] rfl)
  · exact absurd ((lg_cmp_eq _ _).mpr (lm_chance hR _ _)) c_415
set_option maxHeartbeats 4000000 in
set_option maxRecDepth 100000 in
theorem lw_c7 {p : Program} {l : Launch} {e : Env} {s : State} {m : MethodId} {below : List Frame} {meth : Method} {c : Code} {b L : Nat} {xs : Nat → Int32} {D : va_G} {cI cJ cZ : ClassId} {h a1 a2 a3 a4 a5 hm b1 b2 b3 o t sa : Nat} {cells slots : Nat} {Q : State → Prop} (hL : L ≤ 2560) (C0 : lw_Cx p l s m meth c b L xs D cI cJ cZ t sa) (n : Nat) (hn : 5 * n + 5 ≤ L) (hcs0 : cells ≤ room_1.cells ∧ slots ≤ room_1.slots) (hcs6 : cells + 1 ≤ room_1.cells ∧ slots + 6 ≤ room_1.slots)
    (kk : ∀ (u d lw uw an : Nat → Int64) (mu md tr : Nat → Int32) (fn qn : Nat) (sd : Int64) (th : Int32) (f : Nat → Int64) (H : Heap) (locs : List Loc) (ls : Array Slot), rl fn qn u d lw uw an mu md tr → va_P D vwCl (lW cI cJ cZ h a1 a2 a3 a4 a5 hm b1 b2 b3 o u d lw uw an (nI fn) (nI qn) sd mu md tr (nI fn) (nI qn) sd th f) H → va_D (fun q : Nat => s.heap.size ≤ q) (lW cI cJ cZ h a1 a2 a3 a4 a5 hm b1 b2 b3 o u d lw uw an (nI fn) (nI qn) sd mu md tr (nI fn) (nI qn) sd th f) → va_S (fun q : Nat => s.heap.size ≤ q) s.heap H locs → lv_has ls 9 [(0, .ref b), (1, .ref h), (2, .ref hm), (3, .ref o), (4, .int (nI (5 * n)))] → W p l e room_1 s m #[Value.ref b] below meth c H locs (cells + 1) (slots + 6) Q (F0 m 836 ls []))
    (u d lw uw an : Nat → Int64) (mu md tr : Nat → Int32) (fn qn : Nat) (sd : Int64) (th : Int32) (f : Nat → Int64) (H : Heap) (locs : List Loc) (ls : Array Slot) (hR : rl fn qn u d lw uw an mu md tr) (hP : va_P D vwCl (lW cI cJ cZ h a1 a2 a3 a4 a5 hm b1 b2 b3 o u d lw uw an (nI fn) (nI qn) sd mu md tr (nI fn) (nI qn) sd th f) H) (hD : va_D (fun q : Nat => s.heap.size ≤ q) (lW cI cJ cZ h a1 a2 a3 a4 a5 hm b1 b2 b3 o u d lw uw an (nI fn) (nI qn) sd mu md tr (nI fn) (nI qn) sd th f)) (hS : va_S (fun q : Nat => s.heap.size ≤ q) s.heap H locs) (hl : lv_has ls 9 [(0, .ref b), (1, .ref h), (2, .ref hm), (3, .ref o), (4, .int (nI (5 * n)))]) : W p l e room_1 s m #[Value.ref b] below meth c H locs cells slots Q (F0 m 420 ls []) := by
  obtain ⟨hx, hb, hml, hown, hts, hX, hbl, hK, hZ, hT, hG, hl9⟩ := C0
  obtain ⟨hfn, hqn, h01, -, -⟩ := id hR
  have hbA : ¬ (fun q : Nat => s.heap.size ≤ q) b := Nat.not_le.mpr hbl
  have hA : ∀ q : Nat, s.heap.size ≤ q → (fun q : Nat => s.heap.size ≤ q) q := fun _ z => z
  refine lv_aload_n hx hb dL_law_420 rfl (lv_at hl 1 rfl) ?_
  refine lv_aload_n hx hb dL_law_421 rfl (lv_at hl 0 rfl) ?_
  refine lv_iload hx hb dL_law_422 (lv_at hl 4 rfl) ?_
  refine lv_iconst (v := nI 1) hx hb dL_law_424 (by decide) ?_
  refine lv_iadd hx hb dL_law_425 ?_
  refine oo_topI (y := nI ((5 * n) + 1)) (nI_add _ _) ?_
  refine va_sld hx hb hX hbl hbA hS (vp_in_nI (by omega) (by omega)) dL_law_426 ?_
  refine oo_topI (y := xs ((5 * n) + 1)) (congrArg xs (nI_clamp (by omega))) ?_
  refine ro_calld (va_runV (As := [.int (xs ((5 * n) + 1))]) (rest := []) ⟨hx, hb, hml, hown, hts⟩ (kX0_real l D cJ h a1 a2 a3 a4 a5 u d lw uw an fn qn sd (xs ((5 * n) + 1)) hfn (lm_nanX hR _)) (cwV 1 hts gL_law_X0_real rfl rfl rfl ok_X0_real ⟨Nat.le_of_ble_eq_true rfl, Nat.le_of_ble_eq_true rfl⟩) ⟨oo_blind, va_recv hK hP (ci := 0) (q0 := 0) rfl rfl, oo_ps hP hK [0, 1, 2, 3, 4, 5] rfl [0] rfl⟩ rfl rfl hl.1 rfl (lv_room (Nat.le_of_ble_eq_true rfl)) dL_law_427 hcs0) hP hS (fun H locs hP hS => ?_)
  refine lv_dstore (lv' := [(5, .double (kvX0_real d lw uw an fn qn (xs ((5 * n) + 1)))), (0, .ref b), (1, .ref h), (2, .ref hm), (3, .ref o), (4, .int (nI (5 * n)))]) hx hb dL_law_430 hl (by decide) rfl (fun ls hl => ?_)
  refine lv_aload_n hx hb dL_law_432 rfl (lv_at hl 3 rfl) ?_
  refine lv_aload_n hx hb dL_law_433 rfl (lv_at hl 1 rfl) ?_
  refine lv_iload hx hb dL_law_434 (lv_at hl 5 rfl) ?_
  refine lv_iconst (v := nI 1) hx hb dL_law_436 (by decide) ?_
  refine lv_iadd hx hb dL_law_437 ?_
  refine oo_topI (y := nI ((5 * n) + 1)) (nI_add _ _) ?_
  refine va_sld hx hb hX hbl hbA hS (vp_in_nI (by omega) (by omega)) dL_law_438 ?_
  refine oo_topI (y := xs ((5 * n) + 1)) (congrArg xs (nI_clamp (by omega))) ?_
  refine mu_calld (va_runV (As := [.int (xs ((5 * n) + 1))]) (rest := []) ⟨hx, hb, hml, hown, hts⟩ (kX1_real l D cI cZ hm b1 b2 b3 mu md tr fn qn sd th (xs ((5 * n) + 1)) hfn hqn h01 (lm_gcdN hR _) (lm_gcdZ hR _) (lm_nanM hR _) _) (cwV 1 hts gL_law_X1_real rfl rfl rfl ok_X1_real ⟨Nat.le_of_ble_eq_true rfl, Nat.le_of_ble_eq_true rfl⟩) ⟨oo_blindM, va_recv hK hP (ci := 1) (q0 := 6) rfl rfl, oo_psM hP hD hK [6, 7, 8, 9] rfl rfl [1, 2] rfl⟩ rfl rfl hl.1 rfl (lv_room (Nat.le_of_ble_eq_true rfl)) dL_law_439 hcs0) hP hD hS hA [6, 7, 8, 9] rfl (oo_fc (oo_fc (oo_fc (oo_fc rfl)))) (fun H locs hP hD hS => ?_)
  have hP : va_P D vwCl (lW cI cJ cZ h a1 a2 a3 a4 a5 hm b1 b2 b3 o u d lw uw an (nI fn) (nI qn) sd mu md tr (nI fn) (nI qn) sd (0 : Int32) f) H := hP
  have hD : va_D _ (lW cI cJ cZ h a1 a2 a3 a4 a5 hm b1 b2 b3 o u d lw uw an (nI fn) (nI qn) sd mu md tr (nI fn) (nI qn) sd (0 : Int32) f) := hD
  refine lv_dstore (lv' := [(7, .double (kvX1_real mu md tr fn qn (xs ((5 * n) + 1)))), (5, .double (kvX0_real d lw uw an fn qn (xs ((5 * n) + 1)))), (0, .ref b), (1, .ref h), (2, .ref hm), (3, .ref o), (4, .int (nI (5 * n)))]) hx hb dL_law_442 hl (by decide) rfl (fun ls hl => ?_)
  refine lv_dload hx hb dL_law_444 (lv_at hl 1 rfl) ?_
  refine lv_dload hx hb dL_law_446 (lv_at hl 0 rfl) ?_
  refine lv_dcmp hx hb dL_law_448 ?_
  refine lv_if_eq (tgt := 470) hx hb dL_law_449 (by decide) (fun c_449 => ?_) (fun c_449 => ?_)
  · refine lv_goto (tgt := 836) hx hb dL_law_470 (by decide) ?_
    refine W.widen (k := cells + 1) (n := slots + 6) (by omega) (by omega) ?_
    exact kk u d lw uw an mu md tr fn qn sd (0 : Int32) f H locs ls hR hP hD hS (lv_sub hl [2, 3, 4, 5, 6] rfl)
  · exact absurd (lm_real hR _) c_449
set_option maxHeartbeats 4000000 in
set_option maxRecDepth 100000 in
theorem lw_c8 {p : Program} {l : Launch} {e : Env} {s : State} {m : MethodId} {below : List Frame} {meth : Method} {c : Code} {b L : Nat} {xs : Nat → Int32} {D : va_G} {cI cJ cZ : ClassId} {h a1 a2 a3 a4 a5 hm b1 b2 b3 o t sa : Nat} {cells slots : Nat} {Q : State → Prop} (hL : L ≤ 2560) (C0 : lw_Cx p l s m meth c b L xs D cI cJ cZ t sa) (n : Nat) (hn : 5 * n + 5 ≤ L) (hcs0 : cells ≤ room_1.cells ∧ slots ≤ room_1.slots) (hcs6 : cells + 1 ≤ room_1.cells ∧ slots + 6 ≤ room_1.slots)
    (kk : ∀ (u d lw uw an : Nat → Int64) (mu md tr : Nat → Int32) (fn qn : Nat) (sd : Int64) (th : Int32) (f : Nat → Int64) (H : Heap) (locs : List Loc) (ls : Array Slot), rl fn qn u d lw uw an mu md tr → va_P D vwCl (lW cI cJ cZ h a1 a2 a3 a4 a5 hm b1 b2 b3 o u d lw uw an (nI fn) (nI qn) sd mu md tr (nI fn) (nI qn) sd th f) H → va_D (fun q : Nat => s.heap.size ≤ q) (lW cI cJ cZ h a1 a2 a3 a4 a5 hm b1 b2 b3 o u d lw uw an (nI fn) (nI qn) sd mu md tr (nI fn) (nI qn) sd th f) → va_S (fun q : Nat => s.heap.size ≤ q) s.heap H locs → lv_has ls 9 [(0, .ref b), (1, .ref h), (2, .ref hm), (3, .ref o), (4, .int (nI (5 * n)))] → W p l e room_1 s m #[Value.ref b] below meth c H locs (cells + 1) (slots + 6) Q (F0 m 836 ls []))
    (u d lw uw an : Nat → Int64) (mu md tr : Nat → Int32) (fn qn : Nat) (sd : Int64) (th : Int32) (f : Nat → Int64) (H : Heap) (locs : List Loc) (ls : Array Slot) (hR : rl fn qn u d lw uw an mu md tr) (hP : va_P D vwCl (lW cI cJ cZ h a1 a2 a3 a4 a5 hm b1 b2 b3 o u d lw uw an (nI fn) (nI qn) sd mu md tr (nI fn) (nI qn) sd th f) H) (hD : va_D (fun q : Nat => s.heap.size ≤ q) (lW cI cJ cZ h a1 a2 a3 a4 a5 hm b1 b2 b3 o u d lw uw an (nI fn) (nI qn) sd mu md tr (nI fn) (nI qn) sd th f)) (hS : va_S (fun q : Nat => s.heap.size ≤ q) s.heap H locs) (hl : lv_has ls 9 [(0, .ref b), (1, .ref h), (2, .ref hm), (3, .ref o), (4, .int (nI (5 * n)))]) : W p l e room_1 s m #[Value.ref b] below meth c H locs cells slots Q (F0 m 473 ls []) := by
  obtain ⟨hx, hb, hml, hown, hts, hX, hbl, hK, hZ, hT, hG, hl9⟩ := C0
  obtain ⟨hfn, hqn, h01, -, -⟩ := id hR
  have hbA : ¬ (fun q : Nat => s.heap.size ≤ q) b := Nat.not_le.mpr hbl
  have hA : ∀ q : Nat, s.heap.size ≤ q → (fun q : Nat => s.heap.size ≤ q) q := fun _ z => z
  refine lv_aload_n hx hb dL_law_473 rfl (lv_at hl 1 rfl) ?_
  refine lv_aload_n hx hb dL_law_474 rfl (lv_at hl 0 rfl) ?_
  refine lv_iload hx hb dL_law_475 (lv_at hl 4 rfl) ?_
  refine lv_iconst (v := nI 1) hx hb dL_law_477 (by decide) ?_
  refine lv_iadd hx hb dL_law_478 ?_
  refine oo_topI (y := nI ((5 * n) + 1)) (nI_add _ _) ?_
  refine va_sld hx hb hX hbl hbA hS (vp_in_nI (by omega) (by omega)) dL_law_479 ?_
  refine oo_topI (y := xs ((5 * n) + 1)) (congrArg xs (nI_clamp (by omega))) ?_
  refine lv_aload_n hx hb dL_law_480 rfl (lv_at hl 0 rfl) ?_
  refine lv_iload hx hb dL_law_481 (lv_at hl 4 rfl) ?_
  refine lv_iconst (v := nI 2) hx hb dL_law_483 (by decide) ?_
  refine lv_iadd hx hb dL_law_484 ?_
  refine oo_topI (y := nI ((5 * n) + 2)) (nI_add _ _) ?_
  refine va_sld hx hb hX hbl hbA hS (vp_in_nI (by omega) (by omega)) dL_law_485 ?_
  refine oo_topI (y := xs ((5 * n) + 2)) (congrArg xs (nI_clamp (by omega))) ?_
  refine lv_aload_n hx hb dL_law_486 rfl (lv_at hl 3 rfl) ?_
  refine zx_calli (vx_runSW (As := [.ref h, .int (xs ((5 * n) + 1)), .int (xs ((5 * n) + 2)), .ref o]) (rest := []) ⟨hx, hb, hml, hown, hts⟩ (kL_given l D cJ h a1 a2 a3 a4 a5 u d lw uw an fn qn sd o f (xs ((5 * n) + 1)) (xs ((5 * n) + 2)) sa _ hl9) (vx_cwSW 4 hts gL_law_L_given rfl rfl rfl ok_L_given ⟨Nat.le_of_ble_eq_true rfl, Nat.le_of_ble_eq_true rfl⟩) ⟨zx_blindM, zx_psM hP hD hK hG hS hA [0, 1, 2, 3, 4, 5, 10] rfl rfl [0] rfl⟩ rfl rfl hl.1 rfl (lv_room (Nat.le_of_ble_eq_true rfl)) dL_law_487 hcs6) hP hD hS hA [0, 1, 2, 3, 4, 5, 10] rfl (oo_fc (oo_fc (oo_fc (oo_fc (oo_fc (oo_fc (oo_fc rfl))))))) (fun H locs hP hD hS => ?_)
  have hP : va_P D vwCl (lW cI cJ cZ h a1 a2 a3 a4 a5 hm b1 b2 b3 o u d lw uw an (nI fn) (nI qn) sd mu md tr (nI fn) (nI qn) sd th (kvL_out lw uw an qn (xs ((5 * n) + 1)) (xs ((5 * n) + 2)) f)) H := hP
  have hD : va_D _ (lW cI cJ cZ h a1 a2 a3 a4 a5 hm b1 b2 b3 o u d lw uw an (nI fn) (nI qn) sd mu md tr (nI fn) (nI qn) sd th (kvL_out lw uw an qn (xs ((5 * n) + 1)) (xs ((5 * n) + 2)) f)) := hD
  refine lv_istore (lv' := [(5, .int (kvL_given lw uw an qn (xs ((5 * n) + 1)) (xs ((5 * n) + 2)))), (0, .ref b), (1, .ref h), (2, .ref hm), (3, .ref o), (4, .int (nI (5 * n)))]) hx hb dL_law_490 hl (by decide) rfl (fun ls hl => ?_)
  refine lv_aload_n hx hb dL_law_492 rfl (lv_at hl 3 rfl) ?_
  refine lv_aload_n hx hb dL_law_493 rfl (lv_at hl 1 rfl) ?_
  refine lv_iload hx hb dL_law_494 (lv_at hl 5 rfl) ?_
  refine lv_iconst (v := nI 1) hx hb dL_law_496 (by decide) ?_
  refine lv_iadd hx hb dL_law_497 ?_
  refine oo_topI (y := nI ((5 * n) + 1)) (nI_add _ _) ?_
  refine va_sld hx hb hX hbl hbA hS (vp_in_nI (by omega) (by omega)) dL_law_498 ?_
  refine oo_topI (y := xs ((5 * n) + 1)) (congrArg xs (nI_clamp (by omega))) ?_
  refine lv_aload_n hx hb dL_law_499 rfl (lv_at hl 1 rfl) ?_
  refine lv_iload hx hb dL_law_500 (lv_at hl 5 rfl) ?_
  refine lv_iconst (v := nI 2) hx hb dL_law_502 (by decide) ?_
  refine lv_iadd hx hb dL_law_503 ?_
  refine oo_topI (y := nI ((5 * n) + 2)) (nI_add _ _) ?_
  refine va_sld hx hb hX hbl hbA hS (vp_in_nI (by omega) (by omega)) dL_law_504 ?_
  refine oo_topI (y := xs ((5 * n) + 2)) (congrArg xs (nI_clamp (by omega))) ?_
  refine mu_calll (va_runV (As := [.int (xs ((5 * n) + 1)), .int (xs ((5 * n) + 2))]) (rest := []) ⟨hx, hb, hml, hown, hts⟩ (kX1_given l D cI cZ hm b1 b2 b3 mu md tr fn qn sd th (xs ((5 * n) + 1)) (xs ((5 * n) + 2)) hfn hqn h01 _) (cwV 2 hts gL_law_X1_given rfl rfl rfl ok_X1_given ⟨Nat.le_of_ble_eq_true rfl, Nat.le_of_ble_eq_true rfl⟩) ⟨oo_blindM, va_recv hK hP (ci := 1) (q0 := 6) rfl rfl, oo_psM hP hD hK [6, 7, 8, 9] rfl rfl [1, 2] rfl⟩ rfl rfl hl.1 rfl (lv_room (Nat.le_of_ble_eq_true rfl)) dL_law_505 hcs6) hP hD hS hA [6, 7, 8, 9] rfl (oo_fc (oo_fc (oo_fc (oo_fc rfl)))) (fun H locs hP hD hS => ?_)
  have hP : va_P D vwCl (lW cI cJ cZ h a1 a2 a3 a4 a5 hm b1 b2 b3 o u d lw uw an (nI fn) (nI qn) sd mu md tr (nI fn) (nI qn) sd (kvX1_given_th mu md tr fn qn (xs ((5 * n) + 1)) (xs ((5 * n) + 2))) (kvL_out lw uw an qn (xs ((5 * n) + 1)) (xs ((5 * n) + 2)) f)) H := hP
  have hD : va_D _ (lW cI cJ cZ h a1 a2 a3 a4 a5 hm b1 b2 b3 o u d lw uw an (nI fn) (nI qn) sd mu md tr (nI fn) (nI qn) sd (kvX1_given_th mu md tr fn qn (xs ((5 * n) + 1)) (xs ((5 * n) + 2))) (kvL_out lw uw an qn (xs ((5 * n) + 1)) (xs ((5 * n) + 2)) f)) := hD
  refine lv_lstore (lv' := [(6, .long (kvX1_given mu md tr fn qn (xs ((5 * n) + 1)) (xs ((5 * n) + 2)))), (5, .int (kvL_given lw uw an qn (xs ((5 * n) + 1)) (xs ((5 * n) + 2)))), (0, .ref b), (1, .ref h), (2, .ref hm), (3, .ref o), (4, .int (nI (5 * n)))]) hx hb dL_law_508 hl (by decide) rfl (fun ls hl => ?_)
  refine lv_aload_n hx hb dL_law_510 rfl (lv_at hl 4 rfl) ?_
  refine ro_calli (va_runV (As := []) (rest := []) ⟨hx, hb, hml, hown, hts⟩ (kX1_thrown l D cI cZ hm b1 b2 b3 mu md tr fn qn sd (kvX1_given_th mu md tr fn qn (xs ((5 * n) + 1)) (xs ((5 * n) + 2)))) (cwV 0 hts gL_law_X1_thrown rfl rfl rfl ok_X1_thrown ⟨Nat.le_of_ble_eq_true rfl, Nat.le_of_ble_eq_true rfl⟩) ⟨oo_blind, va_recv hK hP (ci := 1) (q0 := 6) rfl rfl, oo_ps hP hK [6, 7, 8, 9] rfl [1, 2] rfl⟩ rfl rfl hl.1 rfl (lv_room (Nat.le_of_ble_eq_true rfl)) dL_law_511 hcs6) hP hS (fun H locs hP hS => ?_)
  refine lv_iload hx hb dL_law_514 (lv_at hl 1 rfl) ?_
  refine lv_icmp_eq (tgt := 521) hx hb dL_law_516 (by decide) (fun c_516 => ?_) (fun c_516 => ?_)
  · refine lv_iload hx hb dL_law_521 (lv_at hl 1 rfl) ?_
    refine lv_if_ne (tgt := 537) hx hb dL_law_523 (by decide) (fun c_523 => ?_) (fun c_523 => ?_)
    · refine lv_goto (tgt := 836) hx hb dL_law_537 (by decide) ?_
      exact kk u d lw uw an mu md tr fn qn sd (kvX1_given_th mu md tr fn qn (xs ((5 * n) + 1)) (xs ((5 * n) + 2))) (kvL_out lw uw an qn (xs ((5 * n) + 1)) (xs ((5 * n) + 2)) f) H locs ls hR hP hD hS (lv_sub hl [2, 3, 4, 5, 6] rfl)
    · refine lv_aload_n hx hb dL_law_526 rfl (lv_at hl 5 rfl) ?_
      refine lv_iconst (v := nI 0) hx hb dL_law_527 (by decide) ?_
      refine va_lald hx hb hK hP 10 0 rfl rfl (vp_in_nI (by omega) (by omega)) dL_law_528 ?_
      refine oo_topL (y := (kvL_out lw uw an qn (xs ((5 * n) + 1)) (xs ((5 * n) + 2)) f) 0) (congrArg (kvL_out lw uw an qn (xs ((5 * n) + 1)) (xs ((5 * n) + 2)) f) (nI_clamp (by omega))) ?_
      refine lv_lload hx hb dL_law_529 (lv_at hl 0 rfl) ?_
      refine W.lcmp hx hb dL_law_531 ?_
      refine lv_if_eq (tgt := 537) hx hb dL_law_532 (by decide) (fun c_532 => ?_) (fun c_532 => ?_)
      · refine lv_goto (tgt := 836) hx hb dL_law_537 (by decide) ?_
        exact kk u d lw uw an mu md tr fn qn sd (kvX1_given_th mu md tr fn qn (xs ((5 * n) + 1)) (xs ((5 * n) + 2))) (kvL_out lw uw an qn (xs ((5 * n) + 1)) (xs ((5 * n) + 2)) f) H locs ls hR hP hD hS (lv_sub hl [2, 3, 4, 5, 6] rfl)
      · exact absurd ((lg_cmp_eq _ _).mpr ((lm_out c_523 f).trans (lm_given_v hR _ _ c_523))) c_532
  · exact absurd (lm_given_t hR _ _) c_516
set_option maxHeartbeats 4000000 in
set_option maxRecDepth 100000 in
theorem lw_c9 {p : Program} {l : Launch} {e : Env} {s : State} {m : MethodId} {below : List Frame} {meth : Method} {c : Code} {b L : Nat} {xs : Nat → Int32} {D : va_G} {cI cJ cZ : ClassId} {h a1 a2 a3 a4 a5 hm b1 b2 b3 o t sa : Nat} {cells slots : Nat} {Q : State → Prop} (hL : L ≤ 2560) (C0 : lw_Cx p l s m meth c b L xs D cI cJ cZ t sa) (n : Nat) (hn : 5 * n + 5 ≤ L) (hcs0 : cells ≤ room_1.cells ∧ slots ≤ room_1.slots) (hcs6 : cells + 1 ≤ room_1.cells ∧ slots + 6 ≤ room_1.slots)
    (kk : ∀ (u d lw uw an : Nat → Int64) (mu md tr : Nat → Int32) (fn qn : Nat) (sd : Int64) (th : Int32) (f : Nat → Int64) (H : Heap) (locs : List Loc) (ls : Array Slot), rl fn qn u d lw uw an mu md tr → va_P D vwCl (lW cI cJ cZ h a1 a2 a3 a4 a5 hm b1 b2 b3 o u d lw uw an (nI fn) (nI qn) sd mu md tr (nI fn) (nI qn) sd th f) H → va_D (fun q : Nat => s.heap.size ≤ q) (lW cI cJ cZ h a1 a2 a3 a4 a5 hm b1 b2 b3 o u d lw uw an (nI fn) (nI qn) sd mu md tr (nI fn) (nI qn) sd th f) → va_S (fun q : Nat => s.heap.size ≤ q) s.heap H locs → lv_has ls 9 [(0, .ref b), (1, .ref h), (2, .ref hm), (3, .ref o), (4, .int (nI (5 * n)))] → W p l e room_1 s m #[Value.ref b] below meth c H locs (cells + 1) (slots + 6) Q (F0 m 836 ls []))
    (u d lw uw an : Nat → Int64) (mu md tr : Nat → Int32) (fn qn : Nat) (sd : Int64) (th : Int32) (f : Nat → Int64) (H : Heap) (locs : List Loc) (ls : Array Slot) (hR : rl fn qn u d lw uw an mu md tr) (hP : va_P D vwCl (lW cI cJ cZ h a1 a2 a3 a4 a5 hm b1 b2 b3 o u d lw uw an (nI fn) (nI qn) sd mu md tr (nI fn) (nI qn) sd th f) H) (hD : va_D (fun q : Nat => s.heap.size ≤ q) (lW cI cJ cZ h a1 a2 a3 a4 a5 hm b1 b2 b3 o u d lw uw an (nI fn) (nI qn) sd mu md tr (nI fn) (nI qn) sd th f)) (hS : va_S (fun q : Nat => s.heap.size ≤ q) s.heap H locs) (hl : lv_has ls 9 [(0, .ref b), (1, .ref h), (2, .ref hm), (3, .ref o), (4, .int (nI (5 * n)))]) : W p l e room_1 s m #[Value.ref b] below meth c H locs cells slots Q (F0 m 540 ls []) := by
  obtain ⟨hx, hb, hml, hown, hts, hX, hbl, hK, hZ, hT, hG, hl9⟩ := C0
  obtain ⟨hfn, hqn, h01, -, -⟩ := id hR
  have hbA : ¬ (fun q : Nat => s.heap.size ≤ q) b := Nat.not_le.mpr hbl
  have hA : ∀ q : Nat, s.heap.size ≤ q → (fun q : Nat => s.heap.size ≤ q) q := fun _ z => z
  refine lv_aload_n hx hb dL_law_540 rfl (lv_at hl 1 rfl) ?_
  refine lv_aload_n hx hb dL_law_541 rfl (lv_at hl 0 rfl) ?_
  refine lv_iload hx hb dL_law_542 (lv_at hl 4 rfl) ?_
  refine lv_iconst (v := nI 1) hx hb dL_law_544 (by decide) ?_
  refine lv_iadd hx hb dL_law_545 ?_
  refine oo_topI (y := nI ((5 * n) + 1)) (nI_add _ _) ?_
  refine va_sld hx hb hX hbl hbA hS (vp_in_nI (by omega) (by omega)) dL_law_546 ?_
  refine oo_topI (y := xs ((5 * n) + 1)) (congrArg xs (nI_clamp (by omega))) ?_
  refine lv_aload_n hx hb dL_law_547 rfl (lv_at hl 0 rfl) ?_
  refine lv_iload hx hb dL_law_548 (lv_at hl 4 rfl) ?_
  refine lv_iconst (v := nI 2) hx hb dL_law_550 (by decide) ?_
  refine lv_iadd hx hb dL_law_551 ?_
  refine oo_topI (y := nI ((5 * n) + 2)) (nI_add _ _) ?_
  refine va_sld hx hb hX hbl hbA hS (vp_in_nI (by omega) (by omega)) dL_law_552 ?_
  refine oo_topI (y := xs ((5 * n) + 2)) (congrArg xs (nI_clamp (by omega))) ?_
  refine lv_aload_n hx hb dL_law_553 rfl (lv_at hl 0 rfl) ?_
  refine lv_iload hx hb dL_law_554 (lv_at hl 4 rfl) ?_
  refine lv_iconst (v := nI 3) hx hb dL_law_556 (by decide) ?_
  refine lv_iadd hx hb dL_law_557 ?_
  refine oo_topI (y := nI ((5 * n) + 3)) (nI_add _ _) ?_
  refine va_sld hx hb hX hbl hbA hS (vp_in_nI (by omega) (by omega)) dL_law_558 ?_
  refine oo_topI (y := xs ((5 * n) + 3)) (congrArg xs (nI_clamp (by omega))) ?_
  refine mu_calll (va_runV (As := [.int (xs ((5 * n) + 1)), .int (xs ((5 * n) + 2)), .int (xs ((5 * n) + 3))]) (rest := []) ⟨hx, hb, hml, hown, hts⟩ (kX0_influence l D cJ h a1 a2 a3 a4 a5 u d lw uw an fn qn sd (xs ((5 * n) + 1)) (xs ((5 * n) + 2)) (xs ((5 * n) + 3)) hfn _) (cwV 3 hts gL_law_X0_influence rfl rfl rfl ok_X0_influence ⟨Nat.le_of_ble_eq_true rfl, Nat.le_of_ble_eq_true rfl⟩) ⟨oo_blindM, va_recv hK hP (ci := 0) (q0 := 0) rfl rfl, oo_psM hP hD hK [0, 1, 2, 3, 4, 5] rfl rfl [0] rfl⟩ rfl rfl hl.1 rfl (lv_room (Nat.le_of_ble_eq_true rfl)) dL_law_559 hcs0) hP hD hS hA [0, 1, 2, 3, 4, 5] rfl (oo_fc (oo_fc (oo_fc (oo_fc (oo_fc (oo_fc rfl)))))) (fun H locs hP hD hS => ?_)
  have hP : va_P D vwCl (lW cI cJ cZ h a1 a2 a3 a4 a5 hm b1 b2 b3 o (kvX0_influence_u u fn qn (xs ((5 * n) + 1)) (xs ((5 * n) + 2)) (xs ((5 * n) + 3))) (kvX0_influence_d d fn qn (xs ((5 * n) + 1)) (xs ((5 * n) + 2)) (xs ((5 * n) + 3))) (kvX0_influence_lw u d lw fn qn (xs ((5 * n) + 1)) (xs ((5 * n) + 2)) (xs ((5 * n) + 3))) (kvX0_influence_uw u d uw fn qn (xs ((5 * n) + 1)) (xs ((5 * n) + 2)) (xs ((5 * n) + 3))) an (nI fn) (nI qn) sd mu md tr (nI fn) (nI qn) sd th f) H := hP
  have hD : va_D _ (lW cI cJ cZ h a1 a2 a3 a4 a5 hm b1 b2 b3 o (kvX0_influence_u u fn qn (xs ((5 * n) + 1)) (xs ((5 * n) + 2)) (xs ((5 * n) + 3))) (kvX0_influence_d d fn qn (xs ((5 * n) + 1)) (xs ((5 * n) + 2)) (xs ((5 * n) + 3))) (kvX0_influence_lw u d lw fn qn (xs ((5 * n) + 1)) (xs ((5 * n) + 2)) (xs ((5 * n) + 3))) (kvX0_influence_uw u d uw fn qn (xs ((5 * n) + 1)) (xs ((5 * n) + 2)) (xs ((5 * n) + 3))) an (nI fn) (nI qn) sd mu md tr (nI fn) (nI qn) sd th f) := hD
  refine lv_aload_n hx hb dL_law_562 rfl (lv_at hl 2 rfl) ?_
  refine lv_aload_n hx hb dL_law_563 rfl (lv_at hl 0 rfl) ?_
  refine lv_iload hx hb dL_law_564 (lv_at hl 4 rfl) ?_
  refine lv_iconst (v := nI 1) hx hb dL_law_566 (by decide) ?_
  refine lv_iadd hx hb dL_law_567 ?_
  refine oo_topI (y := nI ((5 * n) + 1)) (nI_add _ _) ?_
  refine va_sld hx hb hX hbl hbA hS (vp_in_nI (by omega) (by omega)) dL_law_568 ?_
  refine oo_topI (y := xs ((5 * n) + 1)) (congrArg xs (nI_clamp (by omega))) ?_
  refine lv_aload_n hx hb dL_law_569 rfl (lv_at hl 0 rfl) ?_
  refine lv_iload hx hb dL_law_570 (lv_at hl 4 rfl) ?_
  refine lv_iconst (v := nI 2) hx hb dL_law_572 (by decide) ?_
  refine lv_iadd hx hb dL_law_573 ?_
  refine oo_topI (y := nI ((5 * n) + 2)) (nI_add _ _) ?_
  refine va_sld hx hb hX hbl hbA hS (vp_in_nI (by omega) (by omega)) dL_law_574 ?_
  refine oo_topI (y := xs ((5 * n) + 2)) (congrArg xs (nI_clamp (by omega))) ?_
  refine lv_aload_n hx hb dL_law_575 rfl (lv_at hl 0 rfl) ?_
  refine lv_iload hx hb dL_law_576 (lv_at hl 4 rfl) ?_
  refine lv_iconst (v := nI 3) hx hb dL_law_578 (by decide) ?_
  refine lv_iadd hx hb dL_law_579 ?_
  refine oo_topI (y := nI ((5 * n) + 3)) (nI_add _ _) ?_
  refine va_sld hx hb hX hbl hbA hS (vp_in_nI (by omega) (by omega)) dL_law_580 ?_
  refine oo_topI (y := xs ((5 * n) + 3)) (congrArg xs (nI_clamp (by omega))) ?_
  refine mu_calll (va_runV (As := [.int (xs ((5 * n) + 1)), .int (xs ((5 * n) + 2)), .int (xs ((5 * n) + 3))]) (rest := [.long (kvX0_influence u d lw uw an fn qn (xs ((5 * n) + 1)) (xs ((5 * n) + 2)) (xs ((5 * n) + 3)))]) ⟨hx, hb, hml, hown, hts⟩ (kX1_influence l D cI cZ hm b1 b2 b3 mu md tr fn qn sd th (xs ((5 * n) + 1)) (xs ((5 * n) + 2)) (xs ((5 * n) + 3)) hfn hqn h01 (lm_infN hR _ _) (lm_infZ hR _ _) _) (cwV 3 hts gL_law_X1_influence rfl rfl rfl ok_X1_influence ⟨Nat.le_of_ble_eq_true rfl, Nat.le_of_ble_eq_true rfl⟩) ⟨oo_blindM, va_recv hK hP (ci := 1) (q0 := 6) rfl rfl, oo_psM hP hD hK [6, 7, 8, 9] rfl rfl [1, 2] rfl⟩ rfl rfl hl.1 rfl (lv_room (Nat.le_of_ble_eq_true rfl)) dL_law_581 hcs0) hP hD hS hA [6, 7, 8, 9] rfl (oo_fc (oo_fc (oo_fc (oo_fc rfl)))) (fun H locs hP hD hS => ?_)
  have hP : va_P D vwCl (lW cI cJ cZ h a1 a2 a3 a4 a5 hm b1 b2 b3 o (kvX0_influence_u u fn qn (xs ((5 * n) + 1)) (xs ((5 * n) + 2)) (xs ((5 * n) + 3))) (kvX0_influence_d d fn qn (xs ((5 * n) + 1)) (xs ((5 * n) + 2)) (xs ((5 * n) + 3))) (kvX0_influence_lw u d lw fn qn (xs ((5 * n) + 1)) (xs ((5 * n) + 2)) (xs ((5 * n) + 3))) (kvX0_influence_uw u d uw fn qn (xs ((5 * n) + 1)) (xs ((5 * n) + 2)) (xs ((5 * n) + 3))) an (nI fn) (nI qn) sd mu md tr (nI fn) (nI qn) sd (0 : Int32) f) H := hP
  have hD : va_D _ (lW cI cJ cZ h a1 a2 a3 a4 a5 hm b1 b2 b3 o (kvX0_influence_u u fn qn (xs ((5 * n) + 1)) (xs ((5 * n) + 2)) (xs ((5 * n) + 3))) (kvX0_influence_d d fn qn (xs ((5 * n) + 1)) (xs ((5 * n) + 2)) (xs ((5 * n) + 3))) (kvX0_influence_lw u d lw fn qn (xs ((5 * n) + 1)) (xs ((5 * n) + 2)) (xs ((5 * n) + 3))) (kvX0_influence_uw u d uw fn qn (xs ((5 * n) + 1)) (xs ((5 * n) + 2)) (xs ((5 * n) + 3))) an (nI fn) (nI qn) sd mu md tr (nI fn) (nI qn) sd (0 : Int32) f) := hD
  refine W.lcmp hx hb dL_law_584 ?_
  refine lv_if_eq (tgt := 836) hx hb dL_law_585 (by decide) (fun c_585 => ?_) (fun c_585 => ?_)
  · refine W.widen (k := cells + 1) (n := slots + 6) (by omega) (by omega) ?_
    exact kk (kvX0_influence_u u fn qn (xs ((5 * n) + 1)) (xs ((5 * n) + 2)) (xs ((5 * n) + 3))) (kvX0_influence_d d fn qn (xs ((5 * n) + 1)) (xs ((5 * n) + 2)) (xs ((5 * n) + 3))) (kvX0_influence_lw u d lw fn qn (xs ((5 * n) + 1)) (xs ((5 * n) + 2)) (xs ((5 * n) + 3))) (kvX0_influence_uw u d uw fn qn (xs ((5 * n) + 1)) (xs ((5 * n) + 2)) (xs ((5 * n) + 3))) an mu md tr fn qn sd (0 : Int32) f H locs ls (lm_influence hR (xs (5 * n + 1)) (xs (5 * n + 2)) (xs (5 * n + 3))) hP hD hS (lv_sub hl [0, 1, 2, 3, 4] rfl)
  · exact absurd ((lg_cmp_eq _ _).mpr (lm_influence_v hR _ _ _)) c_585
set_option maxHeartbeats 4000000 in
set_option maxRecDepth 100000 in
theorem lw_c10 {p : Program} {l : Launch} {e : Env} {s : State} {m : MethodId} {below : List Frame} {meth : Method} {c : Code} {b L : Nat} {xs : Nat → Int32} {D : va_G} {cI cJ cZ : ClassId} {h a1 a2 a3 a4 a5 hm b1 b2 b3 o t sa : Nat} {cells slots : Nat} {Q : State → Prop} (hL : L ≤ 2560) (C0 : lw_Cx p l s m meth c b L xs D cI cJ cZ t sa) (n : Nat) (hn : 5 * n + 5 ≤ L) (hcs0 : cells ≤ room_1.cells ∧ slots ≤ room_1.slots) (hcs6 : cells + 1 ≤ room_1.cells ∧ slots + 6 ≤ room_1.slots)
    (kk : ∀ (u d lw uw an : Nat → Int64) (mu md tr : Nat → Int32) (fn qn : Nat) (sd : Int64) (th : Int32) (f : Nat → Int64) (H : Heap) (locs : List Loc) (ls : Array Slot), rl fn qn u d lw uw an mu md tr → va_P D vwCl (lW cI cJ cZ h a1 a2 a3 a4 a5 hm b1 b2 b3 o u d lw uw an (nI fn) (nI qn) sd mu md tr (nI fn) (nI qn) sd th f) H → va_D (fun q : Nat => s.heap.size ≤ q) (lW cI cJ cZ h a1 a2 a3 a4 a5 hm b1 b2 b3 o u d lw uw an (nI fn) (nI qn) sd mu md tr (nI fn) (nI qn) sd th f) → va_S (fun q : Nat => s.heap.size ≤ q) s.heap H locs → lv_has ls 9 [(0, .ref b), (1, .ref h), (2, .ref hm), (3, .ref o), (4, .int (nI (5 * n)))] → W p l e room_1 s m #[Value.ref b] below meth c H locs (cells + 1) (slots + 6) Q (F0 m 836 ls []))
    (u d lw uw an : Nat → Int64) (mu md tr : Nat → Int32) (fn qn : Nat) (sd : Int64) (th : Int32) (f : Nat → Int64) (H : Heap) (locs : List Loc) (ls : Array Slot) (hR : rl fn qn u d lw uw an mu md tr) (hP : va_P D vwCl (lW cI cJ cZ h a1 a2 a3 a4 a5 hm b1 b2 b3 o u d lw uw an (nI fn) (nI qn) sd mu md tr (nI fn) (nI qn) sd th f) H) (hD : va_D (fun q : Nat => s.heap.size ≤ q) (lW cI cJ cZ h a1 a2 a3 a4 a5 hm b1 b2 b3 o u d lw uw an (nI fn) (nI qn) sd mu md tr (nI fn) (nI qn) sd th f)) (hS : va_S (fun q : Nat => s.heap.size ≤ q) s.heap H locs) (hl : lv_has ls 9 [(0, .ref b), (1, .ref h), (2, .ref hm), (3, .ref o), (4, .int (nI (5 * n)))]) : W p l e room_1 s m #[Value.ref b] below meth c H locs cells slots Q (F0 m 590 ls []) := by
  obtain ⟨hx, hb, hml, hown, hts, hX, hbl, hK, hZ, hT, hG, hl9⟩ := C0
  obtain ⟨hfn, hqn, h01, -, -⟩ := id hR
  have hbA : ¬ (fun q : Nat => s.heap.size ≤ q) b := Nat.not_le.mpr hbl
  have hA : ∀ q : Nat, s.heap.size ≤ q → (fun q : Nat => s.heap.size ≤ q) q := fun _ z => z
  refine lv_aload_n hx hb dL_law_590 rfl (lv_at hl 1 rfl) ?_
  refine lv_aload_n hx hb dL_law_591 rfl (lv_at hl 0 rfl) ?_
  refine lv_iload hx hb dL_law_592 (lv_at hl 4 rfl) ?_
  refine lv_iconst (v := nI 1) hx hb dL_law_594 (by decide) ?_
  refine lv_iadd hx hb dL_law_595 ?_
  refine oo_topI (y := nI ((5 * n) + 1)) (nI_add _ _) ?_
  refine va_sld hx hb hX hbl hbA hS (vp_in_nI (by omega) (by omega)) dL_law_596 ?_
  refine oo_topI (y := xs ((5 * n) + 1)) (congrArg xs (nI_clamp (by omega))) ?_
  refine ro_calli (va_runV (As := [.int (xs ((5 * n) + 1))]) (rest := []) ⟨hx, hb, hml, hown, hts⟩ (kX0_hangs l D cJ h a1 a2 a3 a4 a5 u d lw uw an fn qn sd t wo_W (xs ((5 * n) + 1)) hfn) (cwV 1 hts gL_law_X0_hangs rfl rfl rfl ok_X0_hangs ⟨Nat.le_of_ble_eq_true rfl, Nat.le_of_ble_eq_true rfl⟩) ⟨oo_blindZ, va_recv hK hP (ci := 0) (q0 := 0) rfl rfl, oo_psZ hP hK hZ hT hS [0, 1, 2, 3, 4, 5] rfl [0] rfl⟩ rfl rfl hl.1 rfl (lv_room (Nat.le_of_ble_eq_true rfl)) dL_law_597 hcs0) hP hS (fun H locs hP hS => ?_)
  refine lv_aload_n hx hb dL_law_600 rfl (lv_at hl 2 rfl) ?_
  refine lv_aload_n hx hb dL_law_601 rfl (lv_at hl 0 rfl) ?_
  refine lv_iload hx hb dL_law_602 (lv_at hl 4 rfl) ?_
  refine lv_iconst (v := nI 1) hx hb dL_law_604 (by decide) ?_
  refine lv_iadd hx hb dL_law_605 ?_
  refine oo_topI (y := nI ((5 * n) + 1)) (nI_add _ _) ?_
  refine va_sld hx hb hX hbl hbA hS (vp_in_nI (by omega) (by omega)) dL_law_606 ?_
  refine oo_topI (y := xs ((5 * n) + 1)) (congrArg xs (nI_clamp (by omega))) ?_
  refine mu_calli (va_runV (As := [.int (xs ((5 * n) + 1))]) (rest := [.int (kvX0_hangs an fn qn wo_W (xs ((5 * n) + 1)))]) ⟨hx, hb, hml, hown, hts⟩ (kX1_hangs l D cI cZ hm b1 b2 b3 mu md tr fn qn sd th (xs ((5 * n) + 1)) hfn hqn h01 _) (cwV 1 hts gL_law_X1_hangs rfl rfl rfl ok_X1_hangs ⟨Nat.le_of_ble_eq_true rfl, Nat.le_of_ble_eq_true rfl⟩) ⟨oo_blindM, va_recv hK hP (ci := 1) (q0 := 6) rfl rfl, oo_psM hP hD hK [6, 7, 8, 9] rfl rfl [1, 2] rfl⟩ rfl rfl hl.1 rfl (lv_room (Nat.le_of_ble_eq_true rfl)) dL_law_607 hcs0) hP hD hS hA [6, 7, 8, 9] rfl (oo_fc (oo_fc (oo_fc (oo_fc rfl)))) (fun H locs hP hD hS => ?_)
  have hP : va_P D vwCl (lW cI cJ cZ h a1 a2 a3 a4 a5 hm b1 b2 b3 o u d lw uw an (nI fn) (nI qn) sd mu md tr (nI fn) (nI qn) sd (0 : Int32) f) H := hP
  have hD : va_D _ (lW cI cJ cZ h a1 a2 a3 a4 a5 hm b1 b2 b3 o u d lw uw an (nI fn) (nI qn) sd mu md tr (nI fn) (nI qn) sd (0 : Int32) f) := hD
  refine lv_icmp_eq (tgt := 836) hx hb dL_law_610 (by decide) (fun c_610 => ?_) (fun c_610 => ?_)
  · refine W.widen (k := cells + 1) (n := slots + 6) (by omega) (by omega) ?_
    exact kk u d lw uw an mu md tr fn qn sd (0 : Int32) f H locs ls hR hP hD hS (lv_sub hl [0, 1, 2, 3, 4] rfl)
  · exact absurd (lm_hangs hR _) c_610
set_option maxHeartbeats 4000000 in
set_option maxRecDepth 100000 in
theorem lw_c11 {p : Program} {l : Launch} {e : Env} {s : State} {m : MethodId} {below : List Frame} {meth : Method} {c : Code} {b L : Nat} {xs : Nat → Int32} {D : va_G} {cI cJ cZ : ClassId} {h a1 a2 a3 a4 a5 hm b1 b2 b3 o t sa : Nat} {cells slots : Nat} {Q : State → Prop} (hL : L ≤ 2560) (C0 : lw_Cx p l s m meth c b L xs D cI cJ cZ t sa) (n : Nat) (hn : 5 * n + 5 ≤ L) (hcs0 : cells ≤ room_1.cells ∧ slots ≤ room_1.slots) (hcs6 : cells + 1 ≤ room_1.cells ∧ slots + 6 ≤ room_1.slots)
    (kk : ∀ (u d lw uw an : Nat → Int64) (mu md tr : Nat → Int32) (fn qn : Nat) (sd : Int64) (th : Int32) (f : Nat → Int64) (H : Heap) (locs : List Loc) (ls : Array Slot), rl fn qn u d lw uw an mu md tr → va_P D vwCl (lW cI cJ cZ h a1 a2 a3 a4 a5 hm b1 b2 b3 o u d lw uw an (nI fn) (nI qn) sd mu md tr (nI fn) (nI qn) sd th f) H → va_D (fun q : Nat => s.heap.size ≤ q) (lW cI cJ cZ h a1 a2 a3 a4 a5 hm b1 b2 b3 o u d lw uw an (nI fn) (nI qn) sd mu md tr (nI fn) (nI qn) sd th f) → va_S (fun q : Nat => s.heap.size ≤ q) s.heap H locs → lv_has ls 9 [(0, .ref b), (1, .ref h), (2, .ref hm), (3, .ref o), (4, .int (nI (5 * n)))] → W p l e room_1 s m #[Value.ref b] below meth c H locs (cells + 1) (slots + 6) Q (F0 m 836 ls []))
    (u d lw uw an : Nat → Int64) (mu md tr : Nat → Int32) (fn qn : Nat) (sd : Int64) (th : Int32) (f : Nat → Int64) (H : Heap) (locs : List Loc) (ls : Array Slot) (hR : rl fn qn u d lw uw an mu md tr) (hP : va_P D vwCl (lW cI cJ cZ h a1 a2 a3 a4 a5 hm b1 b2 b3 o u d lw uw an (nI fn) (nI qn) sd mu md tr (nI fn) (nI qn) sd th f) H) (hD : va_D (fun q : Nat => s.heap.size ≤ q) (lW cI cJ cZ h a1 a2 a3 a4 a5 hm b1 b2 b3 o u d lw uw an (nI fn) (nI qn) sd mu md tr (nI fn) (nI qn) sd th f)) (hS : va_S (fun q : Nat => s.heap.size ≤ q) s.heap H locs) (hl : lv_has ls 9 [(0, .ref b), (1, .ref h), (2, .ref hm), (3, .ref o), (4, .int (nI (5 * n)))]) : W p l e room_1 s m #[Value.ref b] below meth c H locs cells slots Q (F0 m 615 ls []) := by
  obtain ⟨hx, hb, hml, hown, hts, hX, hbl, hK, hZ, hT, hG, hl9⟩ := C0
  obtain ⟨hfn, hqn, h01, -, -⟩ := id hR
  have hbA : ¬ (fun q : Nat => s.heap.size ≤ q) b := Nat.not_le.mpr hbl
  have hA : ∀ q : Nat, s.heap.size ≤ q → (fun q : Nat => s.heap.size ≤ q) q := fun _ z => z
  refine lv_aload_n hx hb dL_law_615 rfl (lv_at hl 1 rfl) ?_
  refine lv_aload_n hx hb dL_law_616 rfl (lv_at hl 0 rfl) ?_
  refine lv_iload hx hb dL_law_617 (lv_at hl 4 rfl) ?_
  refine lv_iconst (v := nI 1) hx hb dL_law_619 (by decide) ?_
  refine lv_iadd hx hb dL_law_620 ?_
  refine oo_topI (y := nI ((5 * n) + 1)) (nI_add _ _) ?_
  refine va_sld hx hb hX hbl hbA hS (vp_in_nI (by omega) (by omega)) dL_law_621 ?_
  refine oo_topI (y := xs ((5 * n) + 1)) (congrArg xs (nI_clamp (by omega))) ?_
  refine ro_calli (va_runV (As := [.int (xs ((5 * n) + 1))]) (rest := []) ⟨hx, hb, hml, hown, hts⟩ (kX0_likeliest l D cJ h a1 a2 a3 a4 a5 u d lw uw an fn qn sd (xs ((5 * n) + 1)) hfn) (cwV 1 hts gL_law_X0_likeliest rfl rfl rfl ok_X0_likeliest ⟨Nat.le_of_ble_eq_true rfl, Nat.le_of_ble_eq_true rfl⟩) ⟨oo_blind, va_recv hK hP (ci := 0) (q0 := 0) rfl rfl, oo_ps hP hK [0, 1, 2, 3, 4, 5] rfl [0] rfl⟩ rfl rfl hl.1 rfl (lv_room (Nat.le_of_ble_eq_true rfl)) dL_law_622 hcs0) hP hS (fun H locs hP hS => ?_)
  refine lv_aload_n hx hb dL_law_625 rfl (lv_at hl 2 rfl) ?_
  refine lv_aload_n hx hb dL_law_626 rfl (lv_at hl 0 rfl) ?_
  refine lv_iload hx hb dL_law_627 (lv_at hl 4 rfl) ?_
  refine lv_iconst (v := nI 1) hx hb dL_law_629 (by decide) ?_
  refine lv_iadd hx hb dL_law_630 ?_
  refine oo_topI (y := nI ((5 * n) + 1)) (nI_add _ _) ?_
  refine va_sld hx hb hX hbl hbA hS (vp_in_nI (by omega) (by omega)) dL_law_631 ?_
  refine oo_topI (y := xs ((5 * n) + 1)) (congrArg xs (nI_clamp (by omega))) ?_
  refine mu_calli (va_runV (As := [.int (xs ((5 * n) + 1))]) (rest := [.int (kvX0_likeliest lw uw an fn qn (xs ((5 * n) + 1)))]) ⟨hx, hb, hml, hown, hts⟩ (kX1_likeliest l D cI cZ hm b1 b2 b3 mu md tr fn qn sd th (xs ((5 * n) + 1)) hfn hqn h01 _) (cwV 1 hts gL_law_X1_likeliest rfl rfl rfl ok_X1_likeliest ⟨Nat.le_of_ble_eq_true rfl, Nat.le_of_ble_eq_true rfl⟩) ⟨oo_blindM, va_recv hK hP (ci := 1) (q0 := 6) rfl rfl, oo_psM hP hD hK [6, 7, 8, 9] rfl rfl [1, 2] rfl⟩ rfl rfl hl.1 rfl (lv_room (Nat.le_of_ble_eq_true rfl)) dL_law_632 hcs0) hP hD hS hA [6, 7, 8, 9] rfl (oo_fc (oo_fc (oo_fc (oo_fc rfl)))) (fun H locs hP hD hS => ?_)
  have hP : va_P D vwCl (lW cI cJ cZ h a1 a2 a3 a4 a5 hm b1 b2 b3 o u d lw uw an (nI fn) (nI qn) sd mu md tr (nI fn) (nI qn) sd (0 : Int32) f) H := hP
  have hD : va_D _ (lW cI cJ cZ h a1 a2 a3 a4 a5 hm b1 b2 b3 o u d lw uw an (nI fn) (nI qn) sd mu md tr (nI fn) (nI qn) sd (0 : Int32) f) := hD
  refine lv_icmp_eq (tgt := 836) hx hb dL_law_635 (by decide) (fun c_635 => ?_) (fun c_635 => ?_)
  · refine W.widen (k := cells + 1) (n := slots + 6) (by omega) (by omega) ?_
    exact kk u d lw uw an mu md tr fn qn sd (0 : Int32) f H locs ls hR hP hD hS (lv_sub hl [0, 1, 2, 3, 4] rfl)
  · exact absurd (lm_likeliest hR _) c_635
set_option maxHeartbeats 4000000 in
set_option maxRecDepth 100000 in
theorem lw_c12 {p : Program} {l : Launch} {e : Env} {s : State} {m : MethodId} {below : List Frame} {meth : Method} {c : Code} {b L : Nat} {xs : Nat → Int32} {D : va_G} {cI cJ cZ : ClassId} {h a1 a2 a3 a4 a5 hm b1 b2 b3 o t sa : Nat} {cells slots : Nat} {Q : State → Prop} (hL : L ≤ 2560) (C0 : lw_Cx p l s m meth c b L xs D cI cJ cZ t sa) (n : Nat) (hn : 5 * n + 5 ≤ L) (hcs0 : cells ≤ room_1.cells ∧ slots ≤ room_1.slots) (hcs6 : cells + 1 ≤ room_1.cells ∧ slots + 6 ≤ room_1.slots)
    (kk : ∀ (u d lw uw an : Nat → Int64) (mu md tr : Nat → Int32) (fn qn : Nat) (sd : Int64) (th : Int32) (f : Nat → Int64) (H : Heap) (locs : List Loc) (ls : Array Slot), rl fn qn u d lw uw an mu md tr → va_P D vwCl (lW cI cJ cZ h a1 a2 a3 a4 a5 hm b1 b2 b3 o u d lw uw an (nI fn) (nI qn) sd mu md tr (nI fn) (nI qn) sd th f) H → va_D (fun q : Nat => s.heap.size ≤ q) (lW cI cJ cZ h a1 a2 a3 a4 a5 hm b1 b2 b3 o u d lw uw an (nI fn) (nI qn) sd mu md tr (nI fn) (nI qn) sd th f) → va_S (fun q : Nat => s.heap.size ≤ q) s.heap H locs → lv_has ls 9 [(0, .ref b), (1, .ref h), (2, .ref hm), (3, .ref o), (4, .int (nI (5 * n)))] → W p l e room_1 s m #[Value.ref b] below meth c H locs (cells + 1) (slots + 6) Q (F0 m 836 ls []))
    (u d lw uw an : Nat → Int64) (mu md tr : Nat → Int32) (fn qn : Nat) (sd : Int64) (th : Int32) (f : Nat → Int64) (H : Heap) (locs : List Loc) (ls : Array Slot) (hR : rl fn qn u d lw uw an mu md tr) (hP : va_P D vwCl (lW cI cJ cZ h a1 a2 a3 a4 a5 hm b1 b2 b3 o u d lw uw an (nI fn) (nI qn) sd mu md tr (nI fn) (nI qn) sd th f) H) (hD : va_D (fun q : Nat => s.heap.size ≤ q) (lW cI cJ cZ h a1 a2 a3 a4 a5 hm b1 b2 b3 o u d lw uw an (nI fn) (nI qn) sd mu md tr (nI fn) (nI qn) sd th f)) (hS : va_S (fun q : Nat => s.heap.size ≤ q) s.heap H locs) (hl : lv_has ls 9 [(0, .ref b), (1, .ref h), (2, .ref hm), (3, .ref o), (4, .int (nI (5 * n)))]) : W p l e room_1 s m #[Value.ref b] below meth c H locs cells slots Q (F0 m 640 ls []) := by
  obtain ⟨hx, hb, hml, hown, hts, hX, hbl, hK, hZ, hT, hG, hl9⟩ := C0
  obtain ⟨hfn, hqn, h01, -, -⟩ := id hR
  have hbA : ¬ (fun q : Nat => s.heap.size ≤ q) b := Nat.not_le.mpr hbl
  have hA : ∀ q : Nat, s.heap.size ≤ q → (fun q : Nat => s.heap.size ≤ q) q := fun _ z => z
  refine lv_aload_n hx hb dL_law_640 rfl (lv_at hl 1 rfl) ?_
  refine lv_aload_n hx hb dL_law_641 rfl (lv_at hl 0 rfl) ?_
  refine lv_iload hx hb dL_law_642 (lv_at hl 4 rfl) ?_
  refine lv_iconst (v := nI 1) hx hb dL_law_644 (by decide) ?_
  refine lv_iadd hx hb dL_law_645 ?_
  refine oo_topI (y := nI ((5 * n) + 1)) (nI_add _ _) ?_
  refine va_sld hx hb hX hbl hbA hS (vp_in_nI (by omega) (by omega)) dL_law_646 ?_
  refine oo_topI (y := xs ((5 * n) + 1)) (congrArg xs (nI_clamp (by omega))) ?_
  refine ro_calll (va_runV (As := [.int (xs ((5 * n) + 1))]) (rest := []) ⟨hx, hb, hml, hown, hts⟩ (kX0_weight l D cJ h a1 a2 a3 a4 a5 u d lw uw an fn qn sd (xs ((5 * n) + 1)) hfn) (cwV 1 hts gL_law_X0_weight rfl rfl rfl ok_X0_weight ⟨Nat.le_of_ble_eq_true rfl, Nat.le_of_ble_eq_true rfl⟩) ⟨oo_blind, va_recv hK hP (ci := 0) (q0 := 0) rfl rfl, oo_ps hP hK [0, 1, 2, 3, 4, 5] rfl [0] rfl⟩ rfl rfl hl.1 rfl (lv_room (Nat.le_of_ble_eq_true rfl)) dL_law_647 hcs0) hP hS (fun H locs hP hS => ?_)
  refine lv_aload_n hx hb dL_law_650 rfl (lv_at hl 2 rfl) ?_
  refine lv_aload_n hx hb dL_law_651 rfl (lv_at hl 0 rfl) ?_
  refine lv_iload hx hb dL_law_652 (lv_at hl 4 rfl) ?_
  refine lv_iconst (v := nI 1) hx hb dL_law_654 (by decide) ?_
  refine lv_iadd hx hb dL_law_655 ?_
  refine oo_topI (y := nI ((5 * n) + 1)) (nI_add _ _) ?_
  refine va_sld hx hb hX hbl hbA hS (vp_in_nI (by omega) (by omega)) dL_law_656 ?_
  refine oo_topI (y := xs ((5 * n) + 1)) (congrArg xs (nI_clamp (by omega))) ?_
  refine mu_calll (va_runV (As := [.int (xs ((5 * n) + 1))]) (rest := [.long (kvX0_weight lw uw an fn qn (xs ((5 * n) + 1)))]) ⟨hx, hb, hml, hown, hts⟩ (kX1_weight l D cI cZ hm b1 b2 b3 mu md tr fn qn sd th (xs ((5 * n) + 1)) hfn hqn h01 _) (cwV 1 hts gL_law_X1_weight rfl rfl rfl ok_X1_weight ⟨Nat.le_of_ble_eq_true rfl, Nat.le_of_ble_eq_true rfl⟩) ⟨oo_blindM, va_recv hK hP (ci := 1) (q0 := 6) rfl rfl, oo_psM hP hD hK [6, 7, 8, 9] rfl rfl [1, 2] rfl⟩ rfl rfl hl.1 rfl (lv_room (Nat.le_of_ble_eq_true rfl)) dL_law_657 hcs0) hP hD hS hA [6, 7, 8, 9] rfl (oo_fc (oo_fc (oo_fc (oo_fc rfl)))) (fun H locs hP hD hS => ?_)
  have hP : va_P D vwCl (lW cI cJ cZ h a1 a2 a3 a4 a5 hm b1 b2 b3 o u d lw uw an (nI fn) (nI qn) sd mu md tr (nI fn) (nI qn) sd (0 : Int32) f) H := hP
  have hD : va_D _ (lW cI cJ cZ h a1 a2 a3 a4 a5 hm b1 b2 b3 o u d lw uw an (nI fn) (nI qn) sd mu md tr (nI fn) (nI qn) sd (0 : Int32) f) := hD
  refine W.lcmp hx hb dL_law_660 ?_
  refine lv_if_eq (tgt := 836) hx hb dL_law_661 (by decide) (fun c_661 => ?_) (fun c_661 => ?_)
  · refine W.widen (k := cells + 1) (n := slots + 6) (by omega) (by omega) ?_
    exact kk u d lw uw an mu md tr fn qn sd (0 : Int32) f H locs ls hR hP hD hS (lv_sub hl [0, 1, 2, 3, 4] rfl)
  · exact absurd ((lg_cmp_eq _ _).mpr (lm_weight hR _)) c_661
set_option maxHeartbeats 4000000 in
set_option maxRecDepth 100000 in
theorem lw_c13 {p : Program} {l : Launch} {e : Env} {s : State} {m : MethodId} {below : List Frame} {meth : Method} {c : Code} {b L : Nat} {xs : Nat → Int32} {D : va_G} {cI cJ cZ : ClassId} {h a1 a2 a3 a4 a5 hm b1 b2 b3 o t sa : Nat} {cells slots : Nat} {Q : State → Prop} (hL : L ≤ 2560) (C0 : lw_Cx p l s m meth c b L xs D cI cJ cZ t sa) (n : Nat) (hn : 5 * n + 5 ≤ L) (hcs0 : cells ≤ room_1.cells ∧ slots ≤ room_1.slots) (hcs6 : cells + 1 ≤ room_1.cells ∧ slots + 6 ≤ room_1.slots)
    (kk : ∀ (u d lw uw an : Nat → Int64) (mu md tr : Nat → Int32) (fn qn : Nat) (sd : Int64) (th : Int32) (f : Nat → Int64) (H : Heap) (locs : List Loc) (ls : Array Slot), rl fn qn u d lw uw an mu md tr → va_P D vwCl (lW cI cJ cZ h a1 a2 a3 a4 a5 hm b1 b2 b3 o u d lw uw an (nI fn) (nI qn) sd mu md tr (nI fn) (nI qn) sd th f) H → va_D (fun q : Nat => s.heap.size ≤ q) (lW cI cJ cZ h a1 a2 a3 a4 a5 hm b1 b2 b3 o u d lw uw an (nI fn) (nI qn) sd mu md tr (nI fn) (nI qn) sd th f) → va_S (fun q : Nat => s.heap.size ≤ q) s.heap H locs → lv_has ls 9 [(0, .ref b), (1, .ref h), (2, .ref hm), (3, .ref o), (4, .int (nI (5 * n)))] → W p l e room_1 s m #[Value.ref b] below meth c H locs (cells + 1) (slots + 6) Q (F0 m 836 ls []))
    (u d lw uw an : Nat → Int64) (mu md tr : Nat → Int32) (fn qn : Nat) (sd : Int64) (th : Int32) (f : Nat → Int64) (H : Heap) (locs : List Loc) (ls : Array Slot) (hR : rl fn qn u d lw uw an mu md tr) (hP : va_P D vwCl (lW cI cJ cZ h a1 a2 a3 a4 a5 hm b1 b2 b3 o u d lw uw an (nI fn) (nI qn) sd mu md tr (nI fn) (nI qn) sd th f) H) (hD : va_D (fun q : Nat => s.heap.size ≤ q) (lW cI cJ cZ h a1 a2 a3 a4 a5 hm b1 b2 b3 o u d lw uw an (nI fn) (nI qn) sd mu md tr (nI fn) (nI qn) sd th f)) (hS : va_S (fun q : Nat => s.heap.size ≤ q) s.heap H locs) (hl : lv_has ls 9 [(0, .ref b), (1, .ref h), (2, .ref hm), (3, .ref o), (4, .int (nI (5 * n)))]) : W p l e room_1 s m #[Value.ref b] below meth c H locs cells slots Q (F0 m 666 ls []) := by
  obtain ⟨hx, hb, hml, hown, hts, hX, hbl, hK, hZ, hT, hG, hl9⟩ := C0
  obtain ⟨hfn, hqn, h01, -, -⟩ := id hR
  have hbA : ¬ (fun q : Nat => s.heap.size ≤ q) b := Nat.not_le.mpr hbl
  have hA : ∀ q : Nat, s.heap.size ≤ q → (fun q : Nat => s.heap.size ≤ q) q := fun _ z => z
  refine lv_aload_n hx hb dL_law_666 rfl (lv_at hl 1 rfl) ?_
  refine lv_aload_n hx hb dL_law_667 rfl (lv_at hl 0 rfl) ?_
  refine lv_iload hx hb dL_law_668 (lv_at hl 4 rfl) ?_
  refine lv_iconst (v := nI 1) hx hb dL_law_670 (by decide) ?_
  refine lv_iadd hx hb dL_law_671 ?_
  refine oo_topI (y := nI ((5 * n) + 1)) (nI_add _ _) ?_
  refine va_sld hx hb hX hbl hbA hS (vp_in_nI (by omega) (by omega)) dL_law_672 ?_
  refine oo_topI (y := xs ((5 * n) + 1)) (congrArg xs (nI_clamp (by omega))) ?_
  refine ro_calli (va_runV (As := [.int (xs ((5 * n) + 1))]) (rest := []) ⟨hx, hb, hml, hown, hts⟩ (kX0_worlds l D cJ h a1 a2 a3 a4 a5 u d lw uw an fn qn sd (xs ((5 * n) + 1))) (cwV 1 hts gL_law_X0_worlds rfl rfl rfl ok_X0_worlds ⟨Nat.le_of_ble_eq_true rfl, Nat.le_of_ble_eq_true rfl⟩) ⟨oo_blind, va_recv hK hP (ci := 0) (q0 := 0) rfl rfl, oo_ps hP hK [0, 1, 2, 3, 4, 5] rfl [0] rfl⟩ rfl rfl hl.1 rfl (lv_room (Nat.le_of_ble_eq_true rfl)) dL_law_673 hcs0) hP hS (fun H locs hP hS => ?_)
  refine lv_aload_n hx hb dL_law_676 rfl (lv_at hl 2 rfl) ?_
  refine lv_aload_n hx hb dL_law_677 rfl (lv_at hl 0 rfl) ?_
  refine lv_iload hx hb dL_law_678 (lv_at hl 4 rfl) ?_
  refine lv_iconst (v := nI 1) hx hb dL_law_680 (by decide) ?_
  refine lv_iadd hx hb dL_law_681 ?_
  refine oo_topI (y := nI ((5 * n) + 1)) (nI_add _ _) ?_
  refine va_sld hx hb hX hbl hbA hS (vp_in_nI (by omega) (by omega)) dL_law_682 ?_
  refine oo_topI (y := xs ((5 * n) + 1)) (congrArg xs (nI_clamp (by omega))) ?_
  refine mu_calli (va_runV (As := [.int (xs ((5 * n) + 1))]) (rest := [.int (kvX0_worlds an fn qn (xs ((5 * n) + 1)))]) ⟨hx, hb, hml, hown, hts⟩ (kX1_worlds l D cI cZ hm b1 b2 b3 mu md tr fn qn sd th (xs ((5 * n) + 1)) hfn hqn h01 _) (cwV 1 hts gL_law_X1_worlds rfl rfl rfl ok_X1_worlds ⟨Nat.le_of_ble_eq_true rfl, Nat.le_of_ble_eq_true rfl⟩) ⟨oo_blindM, va_recv hK hP (ci := 1) (q0 := 6) rfl rfl, oo_psM hP hD hK [6, 7, 8, 9] rfl rfl [1, 2] rfl⟩ rfl rfl hl.1 rfl (lv_room (Nat.le_of_ble_eq_true rfl)) dL_law_683 hcs0) hP hD hS hA [6, 7, 8, 9] rfl (oo_fc (oo_fc (oo_fc (oo_fc rfl)))) (fun H locs hP hD hS => ?_)
  have hP : va_P D vwCl (lW cI cJ cZ h a1 a2 a3 a4 a5 hm b1 b2 b3 o u d lw uw an (nI fn) (nI qn) sd mu md tr (nI fn) (nI qn) sd (0 : Int32) f) H := hP
  have hD : va_D _ (lW cI cJ cZ h a1 a2 a3 a4 a5 hm b1 b2 b3 o u d lw uw an (nI fn) (nI qn) sd mu md tr (nI fn) (nI qn) sd (0 : Int32) f) := hD
  refine lv_icmp_eq (tgt := 836) hx hb dL_law_686 (by decide) (fun c_686 => ?_) (fun c_686 => ?_)
  · refine W.widen (k := cells + 1) (n := slots + 6) (by omega) (by omega) ?_
    exact kk u d lw uw an mu md tr fn qn sd (0 : Int32) f H locs ls hR hP hD hS (lv_sub hl [0, 1, 2, 3, 4] rfl)
  · exact absurd (lm_worlds hR _) c_686
set_option maxHeartbeats 4000000 in
set_option maxRecDepth 100000 in
theorem lw_c14 {p : Program} {l : Launch} {e : Env} {s : State} {m : MethodId} {below : List Frame} {meth : Method} {c : Code} {b L : Nat} {xs : Nat → Int32} {D : va_G} {cI cJ cZ : ClassId} {h a1 a2 a3 a4 a5 hm b1 b2 b3 o t sa : Nat} {cells slots : Nat} {Q : State → Prop} (hL : L ≤ 2560) (C0 : lw_Cx p l s m meth c b L xs D cI cJ cZ t sa) (n : Nat) (hn : 5 * n + 5 ≤ L) (hcs0 : cells ≤ room_1.cells ∧ slots ≤ room_1.slots) (hcs6 : cells + 1 ≤ room_1.cells ∧ slots + 6 ≤ room_1.slots)
    (kk : ∀ (u d lw uw an : Nat → Int64) (mu md tr : Nat → Int32) (fn qn : Nat) (sd : Int64) (th : Int32) (f : Nat → Int64) (H : Heap) (locs : List Loc) (ls : Array Slot), rl fn qn u d lw uw an mu md tr → va_P D vwCl (lW cI cJ cZ h a1 a2 a3 a4 a5 hm b1 b2 b3 o u d lw uw an (nI fn) (nI qn) sd mu md tr (nI fn) (nI qn) sd th f) H → va_D (fun q : Nat => s.heap.size ≤ q) (lW cI cJ cZ h a1 a2 a3 a4 a5 hm b1 b2 b3 o u d lw uw an (nI fn) (nI qn) sd mu md tr (nI fn) (nI qn) sd th f) → va_S (fun q : Nat => s.heap.size ≤ q) s.heap H locs → lv_has ls 9 [(0, .ref b), (1, .ref h), (2, .ref hm), (3, .ref o), (4, .int (nI (5 * n)))] → W p l e room_1 s m #[Value.ref b] below meth c H locs (cells + 1) (slots + 6) Q (F0 m 836 ls []))
    (u d lw uw an : Nat → Int64) (mu md tr : Nat → Int32) (fn qn : Nat) (sd : Int64) (th : Int32) (f : Nat → Int64) (H : Heap) (locs : List Loc) (ls : Array Slot) (hR : rl fn qn u d lw uw an mu md tr) (hP : va_P D vwCl (lW cI cJ cZ h a1 a2 a3 a4 a5 hm b1 b2 b3 o u d lw uw an (nI fn) (nI qn) sd mu md tr (nI fn) (nI qn) sd th f) H) (hD : va_D (fun q : Nat => s.heap.size ≤ q) (lW cI cJ cZ h a1 a2 a3 a4 a5 hm b1 b2 b3 o u d lw uw an (nI fn) (nI qn) sd mu md tr (nI fn) (nI qn) sd th f)) (hS : va_S (fun q : Nat => s.heap.size ≤ q) s.heap H locs) (hl : lv_has ls 9 [(0, .ref b), (1, .ref h), (2, .ref hm), (3, .ref o), (4, .int (nI (5 * n)))]) : W p l e room_1 s m #[Value.ref b] below meth c H locs cells slots Q (F0 m 691 ls []) := by
  obtain ⟨hx, hb, hml, hown, hts, hX, hbl, hK, hZ, hT, hG, hl9⟩ := C0
  obtain ⟨hfn, hqn, h01, -, -⟩ := id hR
  have hbA : ¬ (fun q : Nat => s.heap.size ≤ q) b := Nat.not_le.mpr hbl
  have hA : ∀ q : Nat, s.heap.size ≤ q → (fun q : Nat => s.heap.size ≤ q) q := fun _ z => z
  refine lv_aload_n hx hb dL_law_691 rfl (lv_at hl 1 rfl) ?_
  refine lv_aload_n hx hb dL_law_692 rfl (lv_at hl 0 rfl) ?_
  refine lv_iload hx hb dL_law_693 (lv_at hl 4 rfl) ?_
  refine lv_iconst (v := nI 1) hx hb dL_law_695 (by decide) ?_
  refine lv_iadd hx hb dL_law_696 ?_
  refine oo_topI (y := nI ((5 * n) + 1)) (nI_add _ _) ?_
  refine va_sld hx hb hX hbl hbA hS (vp_in_nI (by omega) (by omega)) dL_law_697 ?_
  refine oo_topI (y := xs ((5 * n) + 1)) (congrArg xs (nI_clamp (by omega))) ?_
  refine lv_aload_n hx hb dL_law_698 rfl (lv_at hl 0 rfl) ?_
  refine lv_iload hx hb dL_law_699 (lv_at hl 4 rfl) ?_
  refine lv_iconst (v := nI 2) hx hb dL_law_701 (by decide) ?_
  refine lv_iadd hx hb dL_law_702 ?_
  refine oo_topI (y := nI ((5 * n) + 2)) (nI_add _ _) ?_
  refine va_sld hx hb hX hbl hbA hS (vp_in_nI (by omega) (by omega)) dL_law_703 ?_
  refine oo_topI (y := xs ((5 * n) + 2)) (congrArg xs (nI_clamp (by omega))) ?_
  refine ro_calli (va_runV (As := [.int (xs ((5 * n) + 1)), .int (xs ((5 * n) + 2))]) (rest := []) ⟨hx, hb, hml, hown, hts⟩ (kX0_same l D cJ h a1 a2 a3 a4 a5 u d lw uw an fn qn sd (xs ((5 * n) + 1)) (xs ((5 * n) + 2))) (cwV 2 hts gL_law_X0_same rfl rfl rfl ok_X0_same ⟨Nat.le_of_ble_eq_true rfl, Nat.le_of_ble_eq_true rfl⟩) ⟨oo_blind, va_recv hK hP (ci := 0) (q0 := 0) rfl rfl, oo_ps hP hK [0, 1, 2, 3, 4, 5] rfl [0] rfl⟩ rfl rfl hl.1 rfl (lv_room (Nat.le_of_ble_eq_true rfl)) dL_law_704 hcs0) hP hS (fun H locs hP hS => ?_)
  refine lv_aload_n hx hb dL_law_707 rfl (lv_at hl 2 rfl) ?_
  refine lv_aload_n hx hb dL_law_708 rfl (lv_at hl 0 rfl) ?_
  refine lv_iload hx hb dL_law_709 (lv_at hl 4 rfl) ?_
  refine lv_iconst (v := nI 1) hx hb dL_law_711 (by decide) ?_
  refine lv_iadd hx hb dL_law_712 ?_
  refine oo_topI (y := nI ((5 * n) + 1)) (nI_add _ _) ?_
  refine va_sld hx hb hX hbl hbA hS (vp_in_nI (by omega) (by omega)) dL_law_713 ?_
  refine oo_topI (y := xs ((5 * n) + 1)) (congrArg xs (nI_clamp (by omega))) ?_
  refine lv_aload_n hx hb dL_law_714 rfl (lv_at hl 0 rfl) ?_
  refine lv_iload hx hb dL_law_715 (lv_at hl 4 rfl) ?_
  refine lv_iconst (v := nI 2) hx hb dL_law_717 (by decide) ?_
  refine lv_iadd hx hb dL_law_718 ?_
  refine oo_topI (y := nI ((5 * n) + 2)) (nI_add _ _) ?_
  refine va_sld hx hb hX hbl hbA hS (vp_in_nI (by omega) (by omega)) dL_law_719 ?_
  refine oo_topI (y := xs ((5 * n) + 2)) (congrArg xs (nI_clamp (by omega))) ?_
  refine mu_calli (va_runV (As := [.int (xs ((5 * n) + 1)), .int (xs ((5 * n) + 2))]) (rest := [.int (kvX0_same an qn (xs ((5 * n) + 1)) (xs ((5 * n) + 2)))]) ⟨hx, hb, hml, hown, hts⟩ (kX1_same l D cI cZ hm b1 b2 b3 mu md tr fn qn sd th (xs ((5 * n) + 1)) (xs ((5 * n) + 2)) hfn hqn h01 _) (cwV 2 hts gL_law_X1_same rfl rfl rfl ok_X1_same ⟨Nat.le_of_ble_eq_true rfl, Nat.le_of_ble_eq_true rfl⟩) ⟨oo_blindM, va_recv hK hP (ci := 1) (q0 := 6) rfl rfl, oo_psM hP hD hK [6, 7, 8, 9] rfl rfl [1, 2] rfl⟩ rfl rfl hl.1 rfl (lv_room (Nat.le_of_ble_eq_true rfl)) dL_law_720 hcs0) hP hD hS hA [6, 7, 8, 9] rfl (oo_fc (oo_fc (oo_fc (oo_fc rfl)))) (fun H locs hP hD hS => ?_)
  have hP : va_P D vwCl (lW cI cJ cZ h a1 a2 a3 a4 a5 hm b1 b2 b3 o u d lw uw an (nI fn) (nI qn) sd mu md tr (nI fn) (nI qn) sd (0 : Int32) f) H := hP
  have hD : va_D _ (lW cI cJ cZ h a1 a2 a3 a4 a5 hm b1 b2 b3 o u d lw uw an (nI fn) (nI qn) sd mu md tr (nI fn) (nI qn) sd (0 : Int32) f) := hD
  refine lv_icmp_eq (tgt := 836) hx hb dL_law_723 (by decide) (fun c_723 => ?_) (fun c_723 => ?_)
  · refine W.widen (k := cells + 1) (n := slots + 6) (by omega) (by omega) ?_
    exact kk u d lw uw an mu md tr fn qn sd (0 : Int32) f H locs ls hR hP hD hS (lv_sub hl [0, 1, 2, 3, 4] rfl)
  · exact absurd (lm_same hR _ _) c_723
set_option maxHeartbeats 4000000 in
set_option maxRecDepth 100000 in
theorem lw_c15 {p : Program} {l : Launch} {e : Env} {s : State} {m : MethodId} {below : List Frame} {meth : Method} {c : Code} {b L : Nat} {xs : Nat → Int32} {D : va_G} {cI cJ cZ : ClassId} {h a1 a2 a3 a4 a5 hm b1 b2 b3 o t sa : Nat} {cells slots : Nat} {Q : State → Prop} (hL : L ≤ 2560) (C0 : lw_Cx p l s m meth c b L xs D cI cJ cZ t sa) (n : Nat) (hn : 5 * n + 5 ≤ L) (hcs0 : cells ≤ room_1.cells ∧ slots ≤ room_1.slots) (hcs6 : cells + 1 ≤ room_1.cells ∧ slots + 6 ≤ room_1.slots)
    (kk : ∀ (u d lw uw an : Nat → Int64) (mu md tr : Nat → Int32) (fn qn : Nat) (sd : Int64) (th : Int32) (f : Nat → Int64) (H : Heap) (locs : List Loc) (ls : Array Slot), rl fn qn u d lw uw an mu md tr → va_P D vwCl (lW cI cJ cZ h a1 a2 a3 a4 a5 hm b1 b2 b3 o u d lw uw an (nI fn) (nI qn) sd mu md tr (nI fn) (nI qn) sd th f) H → va_D (fun q : Nat => s.heap.size ≤ q) (lW cI cJ cZ h a1 a2 a3 a4 a5 hm b1 b2 b3 o u d lw uw an (nI fn) (nI qn) sd mu md tr (nI fn) (nI qn) sd th f) → va_S (fun q : Nat => s.heap.size ≤ q) s.heap H locs → lv_has ls 9 [(0, .ref b), (1, .ref h), (2, .ref hm), (3, .ref o), (4, .int (nI (5 * n)))] → W p l e room_1 s m #[Value.ref b] below meth c H locs (cells + 1) (slots + 6) Q (F0 m 836 ls []))
    (u d lw uw an : Nat → Int64) (mu md tr : Nat → Int32) (fn qn : Nat) (sd : Int64) (th : Int32) (f : Nat → Int64) (H : Heap) (locs : List Loc) (ls : Array Slot) (hR : rl fn qn u d lw uw an mu md tr) (hP : va_P D vwCl (lW cI cJ cZ h a1 a2 a3 a4 a5 hm b1 b2 b3 o u d lw uw an (nI fn) (nI qn) sd mu md tr (nI fn) (nI qn) sd th f) H) (hD : va_D (fun q : Nat => s.heap.size ≤ q) (lW cI cJ cZ h a1 a2 a3 a4 a5 hm b1 b2 b3 o u d lw uw an (nI fn) (nI qn) sd mu md tr (nI fn) (nI qn) sd th f)) (hS : va_S (fun q : Nat => s.heap.size ≤ q) s.heap H locs) (hl : lv_has ls 9 [(0, .ref b), (1, .ref h), (2, .ref hm), (3, .ref o), (4, .int (nI (5 * n)))]) : W p l e room_1 s m #[Value.ref b] below meth c H locs cells slots Q (F0 m 728 ls []) := by
  obtain ⟨hx, hb, hml, hown, hts, hX, hbl, hK, hZ, hT, hG, hl9⟩ := C0
  obtain ⟨hfn, hqn, h01, -, -⟩ := id hR
  have hbA : ¬ (fun q : Nat => s.heap.size ≤ q) b := Nat.not_le.mpr hbl
  have hA : ∀ q : Nat, s.heap.size ≤ q → (fun q : Nat => s.heap.size ≤ q) q := fun _ z => z
  refine lv_aload_n hx hb dL_law_728 rfl (lv_at hl 1 rfl) ?_
  refine lv_aload_n hx hb dL_law_729 rfl (lv_at hl 0 rfl) ?_
  refine lv_iload hx hb dL_law_730 (lv_at hl 4 rfl) ?_
  refine lv_iconst (v := nI 1) hx hb dL_law_732 (by decide) ?_
  refine lv_iadd hx hb dL_law_733 ?_
  refine oo_topI (y := nI ((5 * n) + 1)) (nI_add _ _) ?_
  refine va_sld hx hb hX hbl hbA hS (vp_in_nI (by omega) (by omega)) dL_law_734 ?_
  refine oo_topI (y := xs ((5 * n) + 1)) (congrArg xs (nI_clamp (by omega))) ?_
  refine lv_aload_n hx hb dL_law_735 rfl (lv_at hl 0 rfl) ?_
  refine lv_iload hx hb dL_law_736 (lv_at hl 4 rfl) ?_
  refine lv_iconst (v := nI 2) hx hb dL_law_738 (by decide) ?_
  refine lv_iadd hx hb dL_law_739 ?_
  refine oo_topI (y := nI ((5 * n) + 2)) (nI_add _ _) ?_
  refine va_sld hx hb hX hbl hbA hS (vp_in_nI (by omega) (by omega)) dL_law_740 ?_
  refine oo_topI (y := xs ((5 * n) + 2)) (congrArg xs (nI_clamp (by omega))) ?_
  refine lv_i2l hx hb dL_law_741 rfl ?_
  refine lv_bipush (v := nI 32) hx hb dL_law_742 (by decide) ?_
  refine lv_lshl hx hb dL_law_744 rfl ?_
  refine lv_aload_n hx hb dL_law_745 rfl (lv_at hl 0 rfl) ?_
  refine lv_iload hx hb dL_law_746 (lv_at hl 4 rfl) ?_
  refine lv_iconst (v := nI 3) hx hb dL_law_748 (by decide) ?_
  refine lv_iadd hx hb dL_law_749 ?_
  refine oo_topI (y := nI ((5 * n) + 3)) (nI_add _ _) ?_
  refine va_sld hx hb hX hbl hbA hS (vp_in_nI (by omega) (by omega)) dL_law_750 ?_
  refine oo_topI (y := xs ((5 * n) + 3)) (congrArg xs (nI_clamp (by omega))) ?_
  refine lv_i2l hx hb dL_law_751 rfl ?_
  refine lv_ldc2 hx hb hown (hts (.constantLong RL 91 (4294967295)) (by decide +kernel)) dL_law_752 ?_
  refine lv_land hx hb dL_law_755 ?_
  refine lv_lor hx hb dL_law_756 ?_
  refine lv_aload_n hx hb dL_law_757 rfl (lv_at hl 0 rfl) ?_
  refine lv_iload hx hb dL_law_758 (lv_at hl 4 rfl) ?_
  refine lv_iconst (v := nI 4) hx hb dL_law_760 (by decide) ?_
  refine lv_iadd hx hb dL_law_761 ?_
  refine oo_topI (y := nI ((5 * n) + 4)) (nI_add _ _) ?_
  refine va_sld hx hb hX hbl hbA hS (vp_in_nI (by omega) (by omega)) dL_law_762 ?_
  refine oo_topI (y := xs ((5 * n) + 4)) (congrArg xs (nI_clamp (by omega))) ?_
  refine mu_calli (va_runV (As := [.int (xs ((5 * n) + 1)), .long ((((xs ((5 * n) + 2)).toInt64) <<< ((nI 32).toInt64 &&& 63)) ||| (((xs ((5 * n) + 3)).toInt64) &&& (4294967295 : Int64))), .int (xs ((5 * n) + 4))]) (rest := []) ⟨hx, hb, hml, hown, hts⟩ (kX0_sample l D cJ h a1 a2 a3 a4 a5 u d lw uw an fn qn sd (xs ((5 * n) + 1)) ((((xs ((5 * n) + 2)).toInt64) <<< ((nI 32).toInt64 &&& 63)) ||| (((xs ((5 * n) + 3)).toInt64) &&& (4294967295 : Int64))) (xs ((5 * n) + 4)) hfn _) (cwV 3 hts gL_law_X0_sample rfl rfl rfl ok_X0_sample ⟨Nat.le_of_ble_eq_true rfl, Nat.le_of_ble_eq_true rfl⟩) ⟨oo_blindM, va_recv hK hP (ci := 0) (q0 := 0) rfl rfl, oo_psM hP hD hK [0, 1, 2, 3, 4, 5] rfl rfl [0] rfl⟩ rfl rfl hl.1 rfl (lv_room (Nat.le_of_ble_eq_true rfl)) dL_law_763 hcs0) hP hD hS hA [0, 1, 2, 3, 4, 5] rfl (oo_fc (oo_fc (oo_fc (oo_fc (oo_fc (oo_fc rfl)))))) (fun H locs hP hD hS => ?_)
  have hP : va_P D vwCl (lW cI cJ cZ h a1 a2 a3 a4 a5 hm b1 b2 b3 o u d lw uw an (nI fn) (nI qn) (kvX0_sample_sd fn qn sd (xs ((5 * n) + 1)) ((((xs ((5 * n) + 2)).toInt64) <<< ((nI 32).toInt64 &&& 63)) ||| (((xs ((5 * n) + 3)).toInt64) &&& (4294967295 : Int64))) (xs ((5 * n) + 4))) mu md tr (nI fn) (nI qn) sd th f) H := hP
  have hD : va_D _ (lW cI cJ cZ h a1 a2 a3 a4 a5 hm b1 b2 b3 o u d lw uw an (nI fn) (nI qn) (kvX0_sample_sd fn qn sd (xs ((5 * n) + 1)) ((((xs ((5 * n) + 2)).toInt64) <<< ((nI 32).toInt64 &&& 63)) ||| (((xs ((5 * n) + 3)).toInt64) &&& (4294967295 : Int64))) (xs ((5 * n) + 4))) mu md tr (nI fn) (nI qn) sd th f) := hD
  refine lv_aload_n hx hb dL_law_766 rfl (lv_at hl 2 rfl) ?_
  refine lv_aload_n hx hb dL_law_767 rfl (lv_at hl 0 rfl) ?_
  refine lv_iload hx hb dL_law_768 (lv_at hl 4 rfl) ?_
  refine lv_iconst (v := nI 1) hx hb dL_law_770 (by decide) ?_
  refine lv_iadd hx hb dL_law_771 ?_
  refine oo_topI (y := nI ((5 * n) + 1)) (nI_add _ _) ?_
  refine va_sld hx hb hX hbl hbA hS (vp_in_nI (by omega) (by omega)) dL_law_772 ?_
  refine oo_topI (y := xs ((5 * n) + 1)) (congrArg xs (nI_clamp (by omega))) ?_
  refine lv_aload_n hx hb dL_law_773 rfl (lv_at hl 0 rfl) ?_
  refine lv_iload hx hb dL_law_774 (lv_at hl 4 rfl) ?_
  refine lv_iconst (v := nI 2) hx hb dL_law_776 (by decide) ?_
  refine lv_iadd hx hb dL_law_777 ?_
  refine oo_topI (y := nI ((5 * n) + 2)) (nI_add _ _) ?_
  refine va_sld hx hb hX hbl hbA hS (vp_in_nI (by omega) (by omega)) dL_law_778 ?_
  refine oo_topI (y := xs ((5 * n) + 2)) (congrArg xs (nI_clamp (by omega))) ?_
  refine lv_i2l hx hb dL_law_779 rfl ?_
  refine lv_bipush (v := nI 32) hx hb dL_law_780 (by decide) ?_
  refine lv_lshl hx hb dL_law_782 rfl ?_
  refine lv_aload_n hx hb dL_law_783 rfl (lv_at hl 0 rfl) ?_
  refine lv_iload hx hb dL_law_784 (lv_at hl 4 rfl) ?_
  refine lv_iconst (v := nI 3) hx hb dL_law_786 (by decide) ?_
  refine lv_iadd hx hb dL_law_787 ?_
  refine oo_topI (y := nI ((5 * n) + 3)) (nI_add _ _) ?_
  refine va_sld hx hb hX hbl hbA hS (vp_in_nI (by omega) (by omega)) dL_law_788 ?_
  refine oo_topI (y := xs ((5 * n) + 3)) (congrArg xs (nI_clamp (by omega))) ?_
  refine lv_i2l hx hb dL_law_789 rfl ?_
  refine lv_ldc2 hx hb hown (hts (.constantLong RL 91 (4294967295)) (by decide +kernel)) dL_law_790 ?_
  refine lv_land hx hb dL_law_793 ?_
  refine lv_lor hx hb dL_law_794 ?_
  refine lv_aload_n hx hb dL_law_795 rfl (lv_at hl 0 rfl) ?_
  refine lv_iload hx hb dL_law_796 (lv_at hl 4 rfl) ?_
  refine lv_iconst (v := nI 4) hx hb dL_law_798 (by decide) ?_
  refine lv_iadd hx hb dL_law_799 ?_
  refine oo_topI (y := nI ((5 * n) + 4)) (nI_add _ _) ?_
  refine va_sld hx hb hX hbl hbA hS (vp_in_nI (by omega) (by omega)) dL_law_800 ?_
  refine oo_topI (y := xs ((5 * n) + 4)) (congrArg xs (nI_clamp (by omega))) ?_
  refine mu_calli (va_runV (As := [.int (xs ((5 * n) + 1)), .long ((((xs ((5 * n) + 2)).toInt64) <<< ((nI 32).toInt64 &&& 63)) ||| (((xs ((5 * n) + 3)).toInt64) &&& (4294967295 : Int64))), .int (xs ((5 * n) + 4))]) (rest := [.int (kvX0_sample u d an fn qn (xs ((5 * n) + 1)) ((((xs ((5 * n) + 2)).toInt64) <<< ((nI 32).toInt64 &&& 63)) ||| (((xs ((5 * n) + 3)).toInt64) &&& (4294967295 : Int64))) (xs ((5 * n) + 4)))]) ⟨hx, hb, hml, hown, hts⟩ (kX1_sample l D cI cZ hm b1 b2 b3 mu md tr fn qn sd th (xs ((5 * n) + 1)) ((((xs ((5 * n) + 2)).toInt64) <<< ((nI 32).toInt64 &&& 63)) ||| (((xs ((5 * n) + 3)).toInt64) &&& (4294967295 : Int64))) (xs ((5 * n) + 4)) hfn hqn h01 (lm_hdz hR) _) (cwV 3 hts gL_law_X1_sample rfl rfl rfl ok_X1_sample ⟨Nat.le_of_ble_eq_true rfl, Nat.le_of_ble_eq_true rfl⟩) ⟨oo_blindM, va_recv hK hP (ci := 1) (q0 := 6) rfl rfl, oo_psM hP hD hK [6, 7, 8, 9] rfl rfl [1, 2] rfl⟩ rfl rfl hl.1 rfl (lv_room (Nat.le_of_ble_eq_true rfl)) dL_law_801 hcs0) hP hD hS hA [6, 7, 8, 9] rfl (oo_fc (oo_fc (oo_fc (oo_fc rfl)))) (fun H locs hP hD hS => ?_)
  have hP : va_P D vwCl (lW cI cJ cZ h a1 a2 a3 a4 a5 hm b1 b2 b3 o u d lw uw an (nI fn) (nI qn) (kvX0_sample_sd fn qn sd (xs ((5 * n) + 1)) ((((xs ((5 * n) + 2)).toInt64) <<< ((nI 32).toInt64 &&& 63)) ||| (((xs ((5 * n) + 3)).toInt64) &&& (4294967295 : Int64))) (xs ((5 * n) + 4))) mu md tr (nI fn) (nI qn) (kvX1_sample_sd fn qn sd (xs ((5 * n) + 1)) ((((xs ((5 * n) + 2)).toInt64) <<< ((nI 32).toInt64 &&& 63)) ||| (((xs ((5 * n) + 3)).toInt64) &&& (4294967295 : Int64))) (xs ((5 * n) + 4))) (0 : Int32) f) H := hP
  have hD : va_D _ (lW cI cJ cZ h a1 a2 a3 a4 a5 hm b1 b2 b3 o u d lw uw an (nI fn) (nI qn) (kvX0_sample_sd fn qn sd (xs ((5 * n) + 1)) ((((xs ((5 * n) + 2)).toInt64) <<< ((nI 32).toInt64 &&& 63)) ||| (((xs ((5 * n) + 3)).toInt64) &&& (4294967295 : Int64))) (xs ((5 * n) + 4))) mu md tr (nI fn) (nI qn) (kvX1_sample_sd fn qn sd (xs ((5 * n) + 1)) ((((xs ((5 * n) + 2)).toInt64) <<< ((nI 32).toInt64 &&& 63)) ||| (((xs ((5 * n) + 3)).toInt64) &&& (4294967295 : Int64))) (xs ((5 * n) + 4))) (0 : Int32) f) := hD
  refine lv_icmp_eq (tgt := 836) hx hb dL_law_804 (by decide) (fun c_804 => ?_) (fun c_804 => ?_)
  · have hP := Eq.mp (congrArg (fun z9 => va_P D vwCl (lW cI cJ cZ h a1 a2 a3 a4 a5 hm b1 b2 b3 o u d lw uw an (nI fn) (nI qn) (kvX0_sample_sd fn qn sd (xs ((5 * n) + 1)) ((((xs ((5 * n) + 2)).toInt64) <<< ((nI 32).toInt64 &&& 63)) ||| (((xs ((5 * n) + 3)).toInt64) &&& (4294967295 : Int64))) (xs ((5 * n) + 4))) mu md tr (nI fn) (nI qn) z9 (0 : Int32) f) H) (show kvX1_sample_sd fn qn sd (xs ((5 * n) + 1)) ((((xs ((5 * n) + 2)).toInt64) <<< ((nI 32).toInt64 &&& 63)) ||| (((xs ((5 * n) + 3)).toInt64) &&& (4294967295 : Int64))) (xs ((5 * n) + 4)) = kvX0_sample_sd fn qn sd (xs ((5 * n) + 1)) ((((xs ((5 * n) + 2)).toInt64) <<< ((nI 32).toInt64 &&& 63)) ||| (((xs ((5 * n) + 3)).toInt64) &&& (4294967295 : Int64))) (xs ((5 * n) + 4)) from rfl)) hP
    have hP : va_P D vwCl (lW cI cJ cZ h a1 a2 a3 a4 a5 hm b1 b2 b3 o u d lw uw an (nI fn) (nI qn) (kvX0_sample_sd fn qn sd (xs ((5 * n) + 1)) ((((xs ((5 * n) + 2)).toInt64) <<< ((nI 32).toInt64 &&& 63)) ||| (((xs ((5 * n) + 3)).toInt64) &&& (4294967295 : Int64))) (xs ((5 * n) + 4))) mu md tr (nI fn) (nI qn) (kvX0_sample_sd fn qn sd (xs ((5 * n) + 1)) ((((xs ((5 * n) + 2)).toInt64) <<< ((nI 32).toInt64 &&& 63)) ||| (((xs ((5 * n) + 3)).toInt64) &&& (4294967295 : Int64))) (xs ((5 * n) + 4))) (0 : Int32) f) H := hP
    have hD : va_D _ (lW cI cJ cZ h a1 a2 a3 a4 a5 hm b1 b2 b3 o u d lw uw an (nI fn) (nI qn) (kvX0_sample_sd fn qn sd (xs ((5 * n) + 1)) ((((xs ((5 * n) + 2)).toInt64) <<< ((nI 32).toInt64 &&& 63)) ||| (((xs ((5 * n) + 3)).toInt64) &&& (4294967295 : Int64))) (xs ((5 * n) + 4))) mu md tr (nI fn) (nI qn) (kvX0_sample_sd fn qn sd (xs ((5 * n) + 1)) ((((xs ((5 * n) + 2)).toInt64) <<< ((nI 32).toInt64 &&& 63)) ||| (((xs ((5 * n) + 3)).toInt64) &&& (4294967295 : Int64))) (xs ((5 * n) + 4))) (0 : Int32) f) := oo_Dre hD (oo_fc (oo_fc (oo_fc (oo_fc (oo_fc (oo_fc (oo_fc (oo_fc (oo_fc (oo_fc (oo_fc rfl)))))))))))
    refine W.widen (k := cells + 1) (n := slots + 6) (by omega) (by omega) ?_
    exact kk u d lw uw an mu md tr fn qn (kvX0_sample_sd fn qn sd (xs ((5 * n) + 1)) ((((xs ((5 * n) + 2)).toInt64) <<< ((nI 32).toInt64 &&& 63)) ||| (((xs ((5 * n) + 3)).toInt64) &&& (4294967295 : Int64))) (xs ((5 * n) + 4))) (0 : Int32) f H locs ls hR hP hD hS (lv_sub hl [0, 1, 2, 3, 4] rfl)
  · exact absurd (lm_sample_v hR _ _ _) c_804
set_option maxHeartbeats 4000000 in
set_option maxRecDepth 100000 in
theorem lw_c16 {p : Program} {l : Launch} {e : Env} {s : State} {m : MethodId} {below : List Frame} {meth : Method} {c : Code} {b L : Nat} {xs : Nat → Int32} {D : va_G} {cI cJ cZ : ClassId} {h a1 a2 a3 a4 a5 hm b1 b2 b3 o t sa : Nat} {cells slots : Nat} {Q : State → Prop} (hL : L ≤ 2560) (C0 : lw_Cx p l s m meth c b L xs D cI cJ cZ t sa) (n : Nat) (hn : 5 * n + 5 ≤ L) (hcs0 : cells ≤ room_1.cells ∧ slots ≤ room_1.slots) (hcs6 : cells + 1 ≤ room_1.cells ∧ slots + 6 ≤ room_1.slots)
    (kk : ∀ (u d lw uw an : Nat → Int64) (mu md tr : Nat → Int32) (fn qn : Nat) (sd : Int64) (th : Int32) (f : Nat → Int64) (H : Heap) (locs : List Loc) (ls : Array Slot), rl fn qn u d lw uw an mu md tr → va_P D vwCl (lW cI cJ cZ h a1 a2 a3 a4 a5 hm b1 b2 b3 o u d lw uw an (nI fn) (nI qn) sd mu md tr (nI fn) (nI qn) sd th f) H → va_D (fun q : Nat => s.heap.size ≤ q) (lW cI cJ cZ h a1 a2 a3 a4 a5 hm b1 b2 b3 o u d lw uw an (nI fn) (nI qn) sd mu md tr (nI fn) (nI qn) sd th f) → va_S (fun q : Nat => s.heap.size ≤ q) s.heap H locs → lv_has ls 9 [(0, .ref b), (1, .ref h), (2, .ref hm), (3, .ref o), (4, .int (nI (5 * n)))] → W p l e room_1 s m #[Value.ref b] below meth c H locs (cells + 1) (slots + 6) Q (F0 m 836 ls []))
    (u d lw uw an : Nat → Int64) (mu md tr : Nat → Int32) (fn qn : Nat) (sd : Int64) (th : Int32) (f : Nat → Int64) (H : Heap) (locs : List Loc) (ls : Array Slot) (hR : rl fn qn u d lw uw an mu md tr) (hP : va_P D vwCl (lW cI cJ cZ h a1 a2 a3 a4 a5 hm b1 b2 b3 o u d lw uw an (nI fn) (nI qn) sd mu md tr (nI fn) (nI qn) sd th f) H) (hD : va_D (fun q : Nat => s.heap.size ≤ q) (lW cI cJ cZ h a1 a2 a3 a4 a5 hm b1 b2 b3 o u d lw uw an (nI fn) (nI qn) sd mu md tr (nI fn) (nI qn) sd th f)) (hS : va_S (fun q : Nat => s.heap.size ≤ q) s.heap H locs) (hl : lv_has ls 9 [(0, .ref b), (1, .ref h), (2, .ref hm), (3, .ref o), (4, .int (nI (5 * n)))]) : W p l e room_1 s m #[Value.ref b] below meth c H locs cells slots Q (F0 m 809 ls []) := by
  obtain ⟨hx, hb, hml, hown, hts, hX, hbl, hK, hZ, hT, hG, hl9⟩ := C0
  obtain ⟨hfn, hqn, h01, -, -⟩ := id hR
  have hbA : ¬ (fun q : Nat => s.heap.size ≤ q) b := Nat.not_le.mpr hbl
  have hA : ∀ q : Nat, s.heap.size ≤ q → (fun q : Nat => s.heap.size ≤ q) q := fun _ z => z
  refine lv_aload_n hx hb dL_law_809 rfl (lv_at hl 1 rfl) ?_
  refine ro_calll (va_runV (As := []) (rest := []) ⟨hx, hb, hml, hown, hts⟩ (kX0_seed l D cJ h a1 a2 a3 a4 a5 u d lw uw an fn qn sd) (cwV 0 hts gL_law_X0_seed rfl rfl rfl ok_X0_seed ⟨Nat.le_of_ble_eq_true rfl, Nat.le_of_ble_eq_true rfl⟩) ⟨oo_blind, va_recv hK hP (ci := 0) (q0 := 0) rfl rfl, oo_ps hP hK [0, 1, 2, 3, 4, 5] rfl [0] rfl⟩ rfl rfl hl.1 rfl (lv_room (Nat.le_of_ble_eq_true rfl)) dL_law_810 hcs0) hP hS (fun H locs hP hS => ?_)
  refine lv_aload_n hx hb dL_law_813 rfl (lv_at hl 2 rfl) ?_
  refine mu_calll (va_runV (As := []) (rest := [.long (kvX0_seed sd)]) ⟨hx, hb, hml, hown, hts⟩ (kX1_seed l D cI cZ hm b1 b2 b3 mu md tr fn qn sd th _) (cwV 0 hts gL_law_X1_seed rfl rfl rfl ok_X1_seed ⟨Nat.le_of_ble_eq_true rfl, Nat.le_of_ble_eq_true rfl⟩) ⟨oo_blindM, va_recv hK hP (ci := 1) (q0 := 6) rfl rfl, oo_psM hP hD hK [6, 7, 8, 9] rfl rfl [1, 2] rfl⟩ rfl rfl hl.1 rfl (lv_room (Nat.le_of_ble_eq_true rfl)) dL_law_814 hcs0) hP hD hS hA [6, 7, 8, 9] rfl (oo_fc (oo_fc (oo_fc (oo_fc rfl)))) (fun H locs hP hD hS => ?_)
  have hP : va_P D vwCl (lW cI cJ cZ h a1 a2 a3 a4 a5 hm b1 b2 b3 o u d lw uw an (nI fn) (nI qn) sd mu md tr (nI fn) (nI qn) sd (0 : Int32) f) H := hP
  have hD : va_D _ (lW cI cJ cZ h a1 a2 a3 a4 a5 hm b1 b2 b3 o u d lw uw an (nI fn) (nI qn) sd mu md tr (nI fn) (nI qn) sd (0 : Int32) f) := hD
  refine W.lcmp hx hb dL_law_817 ?_
  refine lv_if_eq (tgt := 836) hx hb dL_law_818 (by decide) (fun c_818 => ?_) (fun c_818 => ?_)
  · refine W.widen (k := cells + 1) (n := slots + 6) (by omega) (by omega) ?_
    exact kk u d lw uw an mu md tr fn qn sd (0 : Int32) f H locs ls hR hP hD hS (lv_sub hl [0, 1, 2, 3, 4] rfl)
  · exact absurd ((lg_cmp_eq _ _).mpr (rfl)) c_818
set_option maxHeartbeats 4000000 in
set_option maxRecDepth 100000 in
theorem lw_c17 {p : Program} {l : Launch} {e : Env} {s : State} {m : MethodId} {below : List Frame} {meth : Method} {c : Code} {b L : Nat} {xs : Nat → Int32} {D : va_G} {cI cJ cZ : ClassId} {h a1 a2 a3 a4 a5 hm b1 b2 b3 o t sa : Nat} {cells slots : Nat} {Q : State → Prop} (hL : L ≤ 2560) (C0 : lw_Cx p l s m meth c b L xs D cI cJ cZ t sa) (n : Nat) (hn : 5 * n + 5 ≤ L) (hcs0 : cells ≤ room_1.cells ∧ slots ≤ room_1.slots) (hcs6 : cells + 1 ≤ room_1.cells ∧ slots + 6 ≤ room_1.slots)
    (kk : ∀ (u d lw uw an : Nat → Int64) (mu md tr : Nat → Int32) (fn qn : Nat) (sd : Int64) (th : Int32) (f : Nat → Int64) (H : Heap) (locs : List Loc) (ls : Array Slot), rl fn qn u d lw uw an mu md tr → va_P D vwCl (lW cI cJ cZ h a1 a2 a3 a4 a5 hm b1 b2 b3 o u d lw uw an (nI fn) (nI qn) sd mu md tr (nI fn) (nI qn) sd th f) H → va_D (fun q : Nat => s.heap.size ≤ q) (lW cI cJ cZ h a1 a2 a3 a4 a5 hm b1 b2 b3 o u d lw uw an (nI fn) (nI qn) sd mu md tr (nI fn) (nI qn) sd th f) → va_S (fun q : Nat => s.heap.size ≤ q) s.heap H locs → lv_has ls 9 [(0, .ref b), (1, .ref h), (2, .ref hm), (3, .ref o), (4, .int (nI (5 * n)))] → W p l e room_1 s m #[Value.ref b] below meth c H locs (cells + 1) (slots + 6) Q (F0 m 836 ls []))
    (u d lw uw an : Nat → Int64) (mu md tr : Nat → Int32) (fn qn : Nat) (sd : Int64) (th : Int32) (f : Nat → Int64) (H : Heap) (locs : List Loc) (ls : Array Slot) (hR : rl fn qn u d lw uw an mu md tr) (hP : va_P D vwCl (lW cI cJ cZ h a1 a2 a3 a4 a5 hm b1 b2 b3 o u d lw uw an (nI fn) (nI qn) sd mu md tr (nI fn) (nI qn) sd th f) H) (hD : va_D (fun q : Nat => s.heap.size ≤ q) (lW cI cJ cZ h a1 a2 a3 a4 a5 hm b1 b2 b3 o u d lw uw an (nI fn) (nI qn) sd mu md tr (nI fn) (nI qn) sd th f)) (hS : va_S (fun q : Nat => s.heap.size ≤ q) s.heap H locs) (hl : lv_has ls 9 [(0, .ref b), (1, .ref h), (2, .ref hm), (3, .ref o), (4, .int (nI (5 * n)))]) : W p l e room_1 s m #[Value.ref b] below meth c H locs cells slots Q (F0 m 823 ls []) := by
  obtain ⟨hx, hb, hml, hown, hts, hX, hbl, hK, hZ, hT, hG, hl9⟩ := C0
  obtain ⟨hfn, hqn, h01, -, -⟩ := id hR
  have hbA : ¬ (fun q : Nat => s.heap.size ≤ q) b := Nat.not_le.mpr hbl
  have hA : ∀ q : Nat, s.heap.size ≤ q → (fun q : Nat => s.heap.size ≤ q) q := fun _ z => z
  refine lv_aload_n hx hb dL_law_823 rfl (lv_at hl 1 rfl) ?_
  refine ro_calli (va_runV (As := []) (rest := []) ⟨hx, hb, hml, hown, hts⟩ (kX0_questions l D cJ h a1 a2 a3 a4 a5 u d lw uw an fn qn sd) (cwV 0 hts gL_law_X0_questions rfl rfl rfl ok_X0_questions ⟨Nat.le_of_ble_eq_true rfl, Nat.le_of_ble_eq_true rfl⟩) ⟨oo_blind, va_recv hK hP (ci := 0) (q0 := 0) rfl rfl, oo_ps hP hK [0, 1, 2, 3, 4, 5] rfl [0] rfl⟩ rfl rfl hl.1 rfl (lv_room (Nat.le_of_ble_eq_true rfl)) dL_law_824 hcs0) hP hS (fun H locs hP hS => ?_)
  refine lv_aload_n hx hb dL_law_827 rfl (lv_at hl 2 rfl) ?_
  refine mu_calli (va_runV (As := []) (rest := [.int (kvX0_questions qn)]) ⟨hx, hb, hml, hown, hts⟩ (kX1_questions l D cI cZ hm b1 b2 b3 mu md tr fn qn sd th _) (cwV 0 hts gL_law_X1_questions rfl rfl rfl ok_X1_questions ⟨Nat.le_of_ble_eq_true rfl, Nat.le_of_ble_eq_true rfl⟩) ⟨oo_blindM, va_recv hK hP (ci := 1) (q0 := 6) rfl rfl, oo_psM hP hD hK [6, 7, 8, 9] rfl rfl [1, 2] rfl⟩ rfl rfl hl.1 rfl (lv_room (Nat.le_of_ble_eq_true rfl)) dL_law_828 hcs0) hP hD hS hA [6, 7, 8, 9] rfl (oo_fc (oo_fc (oo_fc (oo_fc rfl)))) (fun H locs hP hD hS => ?_)
  have hP : va_P D vwCl (lW cI cJ cZ h a1 a2 a3 a4 a5 hm b1 b2 b3 o u d lw uw an (nI fn) (nI qn) sd mu md tr (nI fn) (nI qn) sd (0 : Int32) f) H := hP
  have hD : va_D _ (lW cI cJ cZ h a1 a2 a3 a4 a5 hm b1 b2 b3 o u d lw uw an (nI fn) (nI qn) sd mu md tr (nI fn) (nI qn) sd (0 : Int32) f) := hD
  refine lv_icmp_eq (tgt := 836) hx hb dL_law_831 (by decide) (fun c_831 => ?_) (fun c_831 => ?_)
  · refine W.widen (k := cells + 1) (n := slots + 6) (by omega) (by omega) ?_
    exact kk u d lw uw an mu md tr fn qn sd (0 : Int32) f H locs ls hR hP hD hS (lv_sub hl [0, 1, 2, 3, 4] rfl)
  · exact absurd (rfl) c_831
