/-! ===== the layer between the kit's rows and the contracts of this claim ===== -/
theorem oo_getD {α : Type} {l : List α} {k : Nat} {x : α} (h : l[k]? = some x) : k < l.length := (List.getElem?_eq_some_iff.mp h).1
/-- a read-only method's start: the world is held, no more -/
def oo_pre (D : va_G) (ws : va_W) (tys : List (ClassId × FieldType)) : State → Prop := fun U => va_P D vwCl ws U.heap ∧ va_K D vwCl tys U
/-- a writing method's start -/
def oo_preM (D : va_G) (ws : va_W) (tys : List (ClassId × FieldType)) (sz : Nat) : State → Prop := fun U => U.heap.size = sz ∧ va_P D vwCl ws U.heap ∧ va_K D vwCl tys U ∧ va_D (fun _ => True) ws
theorem oo_blind {av : List Value} {D : va_G} {ws : va_W} {tys : List (ClassId × FieldType)} : FrameBlind (va_Pc av (oo_pre D ws tys)) := fun a U g mk q => ⟨q.1, q.2.1, va_K.moved (u := U) (U := U.calling g mk a) (Vm.Alike.refl U.vm) q.2.2⟩
theorem oo_blindM {av : List Value} {D : va_G} {ws : va_W} {tys : List (ClassId × FieldType)} {sz : Nat} : FrameBlind (va_Pc av (oo_preM D ws tys sz)) := fun a U g mk q => ⟨q.1, q.2.1, q.2.2.1, va_K.moved (u := U) (U := U.calling g mk a) (Vm.Alike.refl U.vm) q.2.2.2.1, q.2.2.2.2⟩
abbrev oo_N : Nat → Prop := fun _ => False
abbrev oo_RQi (v : Int32) : Array Value → State → Outcome → State → Prop := va_Qi (fun r (_ : Unit) => r = v) (fun _ _ => True) oo_N
abbrev oo_RQl (v : Int64) : Array Value → State → Outcome → State → Prop := va_Ql (fun r (_ : Unit) => r = v) (fun _ _ => True) oo_N
abbrev oo_RQd (v : UInt64) : Array Value → State → Outcome → State → Prop := va_Qd (fun r (_ : Unit) => r = v) (fun _ _ => True) oo_N
abbrev oo_MQi (D : va_G) (ws ws2 : va_W) (sz : Nat) (v : Int32) : Array Value → State → Outcome → State → Prop := va_Qi (fun r (_ : Unit) => r = v) (fun _ t => va_P D vwCl ws2 t.heap ∧ va_D (va_A ws sz) ws2) (va_A ws sz)
abbrev oo_MQl (D : va_G) (ws ws2 : va_W) (sz : Nat) (v : Int64) : Array Value → State → Outcome → State → Prop := va_Ql (fun r (_ : Unit) => r = v) (fun _ t => va_P D vwCl ws2 t.heap ∧ va_D (va_A ws sz) ws2) (va_A ws sz)
abbrev oo_MQd (D : va_G) (ws ws2 : va_W) (sz : Nat) (v : UInt64) : Array Value → State → Outcome → State → Prop := va_Qd (fun r (_ : Unit) => r = v) (fun _ t => va_P D vwCl ws2 t.heap ∧ va_D (va_A ws sz) ws2) (va_A ws sz)
abbrev oo_MQv (D : va_G) (ws ws2 : va_W) (sz : Nat) : Array Value → State → Outcome → State → Prop := va_Qv (fun (_ : Unit) => True) (fun _ t => va_P D vwCl ws2 t.heap ∧ va_D (va_A ws sz) ws2) (va_A ws sz)
/-- read-only contracts: the answer is v; writing ones: the answer is v, the world is ws2 -/
abbrev RoI (l : Launch) (y : MethodName) (wy : List Cond) (rm : Room) (av : List Value) (D : va_G) (ws : va_W) (tys : List (ClassId × FieldType)) (v : Int32) : Prop := Met l y wy rm (va_Pc av (oo_pre D ws tys)) (oo_RQi v) 0 0 oo_N
abbrev RoL (l : Launch) (y : MethodName) (wy : List Cond) (rm : Room) (av : List Value) (D : va_G) (ws : va_W) (tys : List (ClassId × FieldType)) (v : Int64) : Prop := Met l y wy rm (va_Pc av (oo_pre D ws tys)) (oo_RQl v) 0 0 oo_N
abbrev RoD (l : Launch) (y : MethodName) (wy : List Cond) (rm : Room) (av : List Value) (D : va_G) (ws : va_W) (tys : List (ClassId × FieldType)) (v : UInt64) : Prop := Met l y wy rm (va_Pc av (oo_pre D ws tys)) (oo_RQd v) 0 0 oo_N
abbrev MuI (l : Launch) (y : MethodName) (wy : List Cond) (rm : Room) (av : List Value) (D : va_G) (ws : va_W) (tys : List (ClassId × FieldType)) (ws2 : va_W) (v : Int32) : Prop := ∀ sz : Nat, Met l y wy rm (va_Pc av (oo_preM D ws tys sz)) (oo_MQi D ws ws2 sz v) 0 0 (va_A ws sz)
abbrev MuL (l : Launch) (y : MethodName) (wy : List Cond) (rm : Room) (av : List Value) (D : va_G) (ws : va_W) (tys : List (ClassId × FieldType)) (ws2 : va_W) (v : Int64) : Prop := ∀ sz : Nat, Met l y wy rm (va_Pc av (oo_preM D ws tys sz)) (oo_MQl D ws ws2 sz v) 0 0 (va_A ws sz)
abbrev MuD (l : Launch) (y : MethodName) (wy : List Cond) (rm : Room) (av : List Value) (D : va_G) (ws : va_W) (tys : List (ClassId × FieldType)) (ws2 : va_W) (v : UInt64) : Prop := ∀ sz : Nat, Met l y wy rm (va_Pc av (oo_preM D ws tys sz)) (oo_MQd D ws ws2 sz v) 0 0 (va_A ws sz)
abbrev MuV (l : Launch) (y : MethodName) (wy : List Cond) (rm : Room) (av : List Value) (D : va_G) (ws : va_W) (tys : List (ClassId × FieldType)) (ws2 : va_W) : Prop := ∀ sz : Nat, Met l y wy rm (va_Pc av (oo_preM D ws tys sz)) (oo_MQv D ws ws2 sz) 0 0 (va_A ws sz)
/-- the head of any method -/
theorem oo_head {l : Launch} {C : String} {y : MethodName} {ws ws' : List Cond} {rm : Room} {Pre : State → Prop} {Qc : Array Value → State → Outcome → State → Prop} {mc ms : Nat} {free : Addr → Prop} {cc : ByteArray} {maxL : Nat} {ret : Option FieldType} {av : List Value}
    (hy : plainName y.cls = true) (hyc : y.cls = C) (hw : ws = Cond.code y cc maxL ret :: ws') (hlen : (lg_sl av).length ≤ maxL)
    (body : ∀ (p : Program) (e : Env) (s : State) (m : MethodId) (below : List Frame) (meth : Method) (c : Code), p.tables.exec = Jvm.exec → c.code = cc → meth.sig.returnType = ret → meth.locks = false → c.maxLocals = maxL → s.vm.findClass C = some m.cls → meth.name = y.name →
      (∀ w ∈ ws, w.before av.toArray s = true) → Pre s → ∀ ls : Array Slot, lv_has ls maxL (lv_args 0 av) →
      W p l e rm s m av.toArray below meth c s.heap [] 0 0 (MQ below Qc av.toArray s mc ms free) (F0 m 0 ls [])) : Met l y ws rm (va_Pc av Pre) Qc mc ms free := by
  refine Met.ofW (cc := cc) (maxL := maxL) (ret := ret) hy hw ?_
  intro p e s m args below meth c s₁ B hml hP
  obtain ⟨rfl, hpre⟩ := hP
  have hts := atoms_spec (ws := ws) B.pre
  have hown : s.vm.findClass C = some m.cls := hyc ▸ findClass_of_methodNamed B.named
  have hl := lv_entry av (n := maxL) hlen
  rw [lg_entry_eq]
  exact body p e s m below meth c B.exec B.bytes B.returns B.notSynchronized hml hown (name_of_methodNamed B.named B.method).1 hts hpre _ hl
/-- the world with some of its cells replaced, each by one of the same address -/
def oo_repl : va_W → List Nat → va_W → va_W
  | ws, i :: is, x :: xs => oo_repl (ws.set i x) is xs
  | ws, _, _ => ws
theorem oo_repl_get : ∀ (is : List Nat) (xs ws : va_W), is.length = xs.length → ∀ (k : Nat) (q : Nat × va_E), (oo_repl ws is xs)[k]? = some q → (∃ j : Nat, is[j]? = some k ∧ xs[j]? = some q) ∨ (k ∉ is ∧ ws[k]? = some q)
  | [], [], ws, _, k, q, h => Or.inr ⟨List.not_mem_nil, h⟩
  | [], _ :: _, ws, hl, _, _, _ => by simp at hl
  | _ :: _, [], ws, hl, _, _, _ => by simp at hl
  | i :: is, x :: xs, ws, hl, k, q, h => by
    have h1 := oo_repl_get is xs (ws.set i x) (by simpa using hl) k q h
    rcases h1 with ⟨j, h2, h3⟩ | ⟨h2, h3⟩
    · exact Or.inl ⟨j + 1, h2, h3⟩
    · by_cases hik : i = k
      · subst hik
        rw [List.getElem?_set_self'] at h3
        cases hw : ws[i]? with
        | none => rw [hw] at h3; cases h3
        | some z => rw [hw] at h3; exact Or.inl ⟨0, rfl, h3⟩
      · rw [List.getElem?_set_ne hik] at h3
        exact Or.inr ⟨fun hm => (List.mem_cons.mp hm).elim (fun e => hik e.symm) h2, h3⟩
theorem oo_world {A0 : Nat → Prop} {D : va_G} {cl : List vw_C} {ws wc w1 : va_W} {H H1 : Heap} (hP : va_P D cl ws H) (hD : va_D A0 ws) (is : List Nat) (hC : is.map (fun i => ws[i]?) = wc.map some) (hF : w1.map (fun q => q.1) = wc.map (fun q => q.1))
    (hk : ∀ q : Nat, q < H.size → ¬ va_A wc H.size q → H1[q]? = H[q]?) (hP1 : va_P D cl w1 H1) : va_P D cl (oo_repl ws is w1) H1 ∧ va_D A0 (oo_repl ws is w1) := by
  have hl1 : is.length = wc.length := by simpa using congrArg List.length hC
  have hl2 : w1.length = wc.length := by simpa using congrArg List.length hF
  have at' : ∀ (j i : Nat), is[j]? = some i → ∃ q, wc[j]? = some q ∧ ws[i]? = some q := by
    intro j i hj
    have h1 : (is.map (fun i => ws[i]?))[j]? = some (ws[i]?) := by rw [List.getElem?_map, hj]; rfl
    rw [hC, List.getElem?_map] at h1
    cases hw : wc[j]? with
    | none => rw [hw] at h1; cases h1
    | some q => rw [hw] at h1; exact ⟨q, rfl, (Option.some.inj h1).symm⟩
  have ad : ∀ (j : Nat) (x q : Nat × va_E), w1[j]? = some x → wc[j]? = some q → x.1 = q.1 := by
    intro j x q hx hq
    have h1 : (w1.map (fun q => q.1))[j]? = some x.1 := by rw [List.getElem?_map, hx]; rfl
    rw [hF, List.getElem?_map, hq] at h1
    exact (Option.some.inj h1).symm
  have old : ∀ (k : Nat) (q : Nat × va_E), (oo_repl ws is w1)[k]? = some q → ∃ r, ws[k]? = some r ∧ r.1 = q.1 := by
    intro k q h
    rcases oo_repl_get is w1 ws (by omega) k q h with ⟨j, h1, h2⟩ | ⟨h1, h2⟩
    · obtain ⟨r, h3, h4⟩ := at' j k h1
      exact ⟨r, h4, (ad j q r h2 h3).symm⟩
    · exact ⟨q, h2, rfl⟩
  refine ⟨fun k q h => ?_, fun i j p q hi hj hpq => ?_, fun k q h => ?_⟩
  · rcases oo_repl_get is w1 ws (by omega) k q h with ⟨j, h1, h2⟩ | ⟨h1, h2⟩
    · exact hP1 j q h2
    · refine (hP k q h2).kept (hk q.1 (hP k q h2).lt (fun hA => ?_))
      rcases hA with ⟨k2, e, h3⟩ | h3
      · have hlt := oo_getD h3
        obtain ⟨i, hi⟩ : ∃ i, is[k2]? = some i := ⟨is[k2]'(by omega), List.getElem?_eq_getElem (by omega)⟩
        obtain ⟨r, h4, h5⟩ := at' k2 i hi
        cases h3.symm.trans h4
        have := hD.1 k i q (q.1, e) h2 h5 rfl
        subst this
        exact h1 (List.mem_of_getElem? hi)
      · have := (hP k q h2).lt
        omega
  · obtain ⟨r1, g1, e1⟩ := old i p hi
    obtain ⟨r2, g2, e2⟩ := old j q hj
    exact hD.1 i j r1 r2 g1 g2 (by rw [e1, e2]; exact hpq)
  · obtain ⟨r, g, e⟩ := old k q h
    rw [← e]
    exact hD.2 k r g
section OO
variable {p : Program} {l : Launch} {e : Env} {R : Room} {s : State} {m : MethodId} {args : Array Value} {below : List Frame} {meth : Method} {c : Code} {H : Heap} {locs : List Loc} {cells slots : Nat} {Q : State → Prop}
variable {pc : Nat} {ls : Array Slot} {rest st0 : List Value} {a : Array Value} {A0 : Nat → Prop} {H0 : Heap} {D : va_G} {cl : List vw_C} {ws wc w1 : va_W} {cc : ByteArray}
/-- a name for the top of the stack -/
theorem oo_topI {x y : Int32} (h : x = y) (k : W p l e R s m args below meth c H locs cells slots Q (F0 m pc ls (.int y :: rest))) : W p l e R s m args below meth c H locs cells slots Q (F0 m pc ls (.int x :: rest)) := h ▸ k
theorem oo_topL {x y : Int64} (h : x = y) (k : W p l e R s m args below meth c H locs cells slots Q (F0 m pc ls (.long y :: rest))) : W p l e R s m args below meth c H locs cells slots Q (F0 m pc ls (.long x :: rest)) := h ▸ k
theorem oo_topD {x y : UInt64} (h : x = y) (k : W p l e R s m args below meth c H locs cells slots Q (F0 m pc ls (.double y :: rest))) : W p l e R s m args below meth c H locs cells slots Q (F0 m pc ls (.double x :: rest)) := h ▸ k
theorem ro_calli {v : Int32} (hr : va_Run p l e R s m args below meth c H locs cells slots 0 0 (F0 m pc ls st0) rest (oo_RQi v a) oo_N) (hP : va_P D cl ws H) (hS : va_S A0 H0 H locs)
    (kk : ∀ (H1 : Heap) (locs1 : List Loc), va_P D cl ws H1 → va_S A0 H0 H1 locs1 → W p l e R s m args below meth c H1 locs1 cells slots Q (F0 m (pc + 3) ls (.int v :: rest))) : W p l e R s m args below meth c H locs cells slots Q (F0 m pc ls st0) :=
  va_calli hr hS (fun q _ h => h.elim) (fun q h => h.elim) (fun r u t H1 locs1 ht hvm hp hb hz hk hS1 => by
    subst hp
    exact kk H1 locs1 (hP.kept (fun k q h => hk q.1 (hP k q h).lt (fun z => z))) hS1)
theorem ro_calll {v : Int64} (hr : va_Run p l e R s m args below meth c H locs cells slots 0 0 (F0 m pc ls st0) rest (oo_RQl v a) oo_N) (hP : va_P D cl ws H) (hS : va_S A0 H0 H locs)
    (kk : ∀ (H1 : Heap) (locs1 : List Loc), va_P D cl ws H1 → va_S A0 H0 H1 locs1 → W p l e R s m args below meth c H1 locs1 cells slots Q (F0 m (pc + 3) ls (.long v :: rest))) : W p l e R s m args below meth c H locs cells slots Q (F0 m pc ls st0) :=
  va_calll hr hS (fun q _ h => h.elim) (fun q h => h.elim) (fun r u t H1 locs1 ht hvm hp hb hz hk hS1 => by
    subst hp
    exact kk H1 locs1 (hP.kept (fun k q h => hk q.1 (hP k q h).lt (fun z => z))) hS1)
theorem ro_calld {v : UInt64} (hr : va_Run p l e R s m args below meth c H locs cells slots 0 0 (F0 m pc ls st0) rest (oo_RQd v a) oo_N) (hP : va_P D cl ws H) (hS : va_S A0 H0 H locs)
    (kk : ∀ (H1 : Heap) (locs1 : List Loc), va_P D cl ws H1 → va_S A0 H0 H1 locs1 → W p l e R s m args below meth c H1 locs1 cells slots Q (F0 m (pc + 3) ls (.double v :: rest))) : W p l e R s m args below meth c H locs cells slots Q (F0 m pc ls st0) :=
  va_calld hr hS (fun q _ h => h.elim) (fun q h => h.elim) (fun r u t H1 locs1 ht hvm hp hb hz hk hS1 => by
    subst hp
    exact kk H1 locs1 (hP.kept (fun k q h => hk q.1 (hP k q h).lt (fun z => z))) hS1)
theorem mu_calli {v : Int32} (hr : va_Run p l e R s m args below meth c H locs cells slots 0 0 (F0 m pc ls st0) rest (oo_MQi D wc w1 H.size v a) (va_A wc H.size)) (hP : va_P D vwCl ws H) (hD : va_D A0 ws) (hS : va_S A0 H0 H locs) (hA : ∀ q, H0.size ≤ q → A0 q)
    (is : List Nat) (hC : is.map (fun i => ws[i]?) = wc.map some) (hF : w1.map (fun q => q.1) = wc.map (fun q => q.1))
    (kk : ∀ (H1 : Heap) (locs1 : List Loc), va_P D vwCl (oo_repl ws is w1) H1 → va_D A0 (oo_repl ws is w1) → va_S A0 H0 H1 locs1 → W p l e R s m args below meth c H1 locs1 cells slots Q (F0 m (pc + 3) ls (.int v :: rest))) : W p l e R s m args below meth c H locs cells slots Q (F0 m pc ls st0) := by
  have hFc := va_free (wc := wc) hD hS hA is hC
  exact va_calli hr hS (fun q _ h => hFc q h) hFc (fun r u t H1 locs1 ht hvm hp hb hz hk hS1 => by
    subst hp; subst ht
    obtain ⟨g1, g2⟩ := oo_world hP hD is hC hF hk hb.1
    exact kk _ locs1 g1 g2 hS1)
theorem mu_calll {v : Int64} (hr : va_Run p l e R s m args below meth c H locs cells slots 0 0 (F0 m pc ls st0) rest (oo_MQl D wc w1 H.size v a) (va_A wc H.size)) (hP : va_P D vwCl ws H) (hD : va_D A0 ws) (hS : va_S A0 H0 H locs) (hA : ∀ q, H0.size ≤ q → A0 q)
    (is : List Nat) (hC : is.map (fun i => ws[i]?) = wc.map some) (hF : w1.map (fun q => q.1) = wc.map (fun q => q.1))
    (kk : ∀ (H1 : Heap) (locs1 : List Loc), va_P D vwCl (oo_repl ws is w1) H1 → va_D A0 (oo_repl ws is w1) → va_S A0 H0 H1 locs1 → W p l e R s m args below meth c H1 locs1 cells slots Q (F0 m (pc + 3) ls (.long v :: rest))) : W p l e R s m args below meth c H locs cells slots Q (F0 m pc ls st0) := by
  have hFc := va_free (wc := wc) hD hS hA is hC
  exact va_calll hr hS (fun q _ h => hFc q h) hFc (fun r u t H1 locs1 ht hvm hp hb hz hk hS1 => by
    subst hp; subst ht
    obtain ⟨g1, g2⟩ := oo_world hP hD is hC hF hk hb.1
    exact kk _ locs1 g1 g2 hS1)
theorem mu_calld {v : UInt64} (hr : va_Run p l e R s m args below meth c H locs cells slots 0 0 (F0 m pc ls st0) rest (oo_MQd D wc w1 H.size v a) (va_A wc H.size)) (hP : va_P D vwCl ws H) (hD : va_D A0 ws) (hS : va_S A0 H0 H locs) (hA : ∀ q, H0.size ≤ q → A0 q)
    (is : List Nat) (hC : is.map (fun i => ws[i]?) = wc.map some) (hF : w1.map (fun q => q.1) = wc.map (fun q => q.1))
    (kk : ∀ (H1 : Heap) (locs1 : List Loc), va_P D vwCl (oo_repl ws is w1) H1 → va_D A0 (oo_repl ws is w1) → va_S A0 H0 H1 locs1 → W p l e R s m args below meth c H1 locs1 cells slots Q (F0 m (pc + 3) ls (.double v :: rest))) : W p l e R s m args below meth c H locs cells slots Q (F0 m pc ls st0) := by
  have hFc := va_free (wc := wc) hD hS hA is hC
  exact va_calld hr hS (fun q _ h => hFc q h) hFc (fun r u t H1 locs1 ht hvm hp hb hz hk hS1 => by
    subst hp; subst ht
    obtain ⟨g1, g2⟩ := oo_world hP hD is hC hF hk hb.1
    exact kk _ locs1 g1 g2 hS1)
theorem mu_callv (hr : va_Run p l e R s m args below meth c H locs cells slots 0 0 (F0 m pc ls st0) rest (oo_MQv D wc w1 H.size a) (va_A wc H.size)) (hP : va_P D vwCl ws H) (hD : va_D A0 ws) (hS : va_S A0 H0 H locs) (hA : ∀ q, H0.size ≤ q → A0 q)
    (is : List Nat) (hC : is.map (fun i => ws[i]?) = wc.map some) (hF : w1.map (fun q => q.1) = wc.map (fun q => q.1))
    (kk : ∀ (H1 : Heap) (locs1 : List Loc), va_P D vwCl (oo_repl ws is w1) H1 → va_D A0 (oo_repl ws is w1) → va_S A0 H0 H1 locs1 → W p l e R s m args below meth c H1 locs1 cells slots Q (F0 m (pc + 3) ls rest)) : W p l e R s m args below meth c H locs cells slots Q (F0 m pc ls st0) := by
  have hFc := va_free (wc := wc) hD hS hA is hC
  exact va_callv hr hS (fun q _ h => hFc q h) hFc (fun u t H1 locs1 ht hvm hp hb hz hk hS1 => by
    subst ht
    obtain ⟨g1, g2⟩ := oo_world hP hD is hC hF hk hb.1
    exact kk _ locs1 g1 g2 hS1)
/-- what a caller hands to a callee: its cells cut out -/
theorem oo_ps {tys : List (ClassId × FieldType)} {Rc : List (ClassId × FieldType)} {av : List Value} (hP : va_P D vwCl ws H) (hK : va_K D vwCl tys s) (is : List Nat) (hs : is.filterMap (fun i => ws[i]?) = wc) (js : List Nat) (ht : js.filterMap (fun i => tys[i]?) = Rc) :
    ∀ U : State, U.heap = H → s.WarmedH U.vm → va_Pc av (oo_pre D wc Rc) av.toArray U := fun U hU hW => ⟨rfl, by rw [hU]; exact hP.sub is hs, va_K.moved hW.alike (hK.sub js ht)⟩
theorem oo_psM {tys : List (ClassId × FieldType)} {Rc : List (ClassId × FieldType)} {av : List Value} (hP : va_P D vwCl ws H) (hD : va_D A0 ws) (hK : va_K D vwCl tys s) (is : List Nat) (hC : is.map (fun i => ws[i]?) = wc.map some) (hn : va_nd is = true) (js : List Nat) (ht : js.filterMap (fun i => tys[i]?) = Rc) :
    ∀ U : State, U.heap = H → s.WarmedH U.vm → va_Pc av (oo_preM D wc Rc H.size) av.toArray U := fun U hU hW => ⟨rfl, by rw [hU], by
      rw [hU]
      refine hP.sub is ?_
      have h : ∀ (is : List Nat) (wc : va_W), is.map (fun i => ws[i]?) = wc.map some → is.filterMap (fun i => ws[i]?) = wc := by
        intro is
        induction is with
        | nil => intro wc h; cases wc with
          | nil => rfl
          | cons x xs => simp at h
        | cons i is ih => intro wc h; cases wc with
          | nil => simp at h
          | cons x xs =>
            simp only [List.map_cons, List.cons.injEq] at h
            rw [List.filterMap_cons, h.1]
            exact congrArg (x :: ·) (ih xs h.2)
      exact h is wc hC, va_K.moved hW.alike (hK.sub js ht), (hD.sub is hn hC).weaken (fun _ _ _ _ => trivial)⟩
/-- ends of read-only methods -/
theorem ro_reti {x v : Int32} (hx : p.tables.exec = Jvm.exec) (hb : c.code = cc) (hr : meth.sig.returnType = some .int) (hlocks : meth.locks = false) (hS : va_S oo_N s.heap H locs) (he : x = v) (hdg : decode cc pc = .ok (.ireturn, 1)) :
    W p l e R s m args below meth c H locs 0 0 (MQ below (oo_RQi v) args s 0 0 oo_N) (F0 m pc ls [.int x]) := W.iret hx hb hr (fun t ht hW => ⟨⟨x, (), rfl, he, trivial⟩, hS.F ht⟩) hS.2.2 hdg hlocks
theorem ro_retz {x v : Int32} (hx : p.tables.exec = Jvm.exec) (hb : c.code = cc) (hr : meth.sig.returnType = some .boolean) (hlocks : meth.locks = false) (hS : va_S oo_N s.heap H locs) (hn : narrow .boolean (.int x) = .int x) (he : x = v) (hdg : decode cc pc = .ok (.ireturn, 1)) :
    W p l e R s m args below meth c H locs 0 0 (MQ below (oo_RQi v) args s 0 0 oo_N) (F0 m pc ls [.int x]) := W.zret hx hb hr hn (fun t ht hW => ⟨⟨x, (), rfl, he, trivial⟩, hS.F ht⟩) hS.2.2 hdg hlocks
theorem ro_retl {x v : Int64} (hx : p.tables.exec = Jvm.exec) (hb : c.code = cc) (hr : meth.sig.returnType = some .long) (hlocks : meth.locks = false) (hS : va_S oo_N s.heap H locs) (he : x = v) (hdg : decode cc pc = .ok (.lreturn, 1)) :
    W p l e R s m args below meth c H locs 0 0 (MQ below (oo_RQl v) args s 0 0 oo_N) (F0 m pc ls [.long x]) := W.lret hx hb hr (fun t ht hW => ⟨⟨x, (), rfl, he, trivial⟩, hS.F ht⟩) hS.2.2 hdg hlocks
theorem ro_retd {x v : UInt64} (hx : p.tables.exec = Jvm.exec) (hb : c.code = cc) (hr : meth.sig.returnType = some .double) (hlocks : meth.locks = false) (hS : va_S oo_N s.heap H locs) (he : x = v) (hdg : decode cc pc = .ok (.dreturn, 1)) :
    W p l e R s m args below meth c H locs 0 0 (MQ below (oo_RQd v) args s 0 0 oo_N) (F0 m pc ls [.double x]) := W.dret hx hb hr (fun t ht hW => ⟨⟨x, (), rfl, he, trivial⟩, hS.F ht⟩) hS.2.2 hdg hlocks
/-- ends of writing methods -/
theorem mu_reti {ws2 : va_W} {x v : Int32} (hx : p.tables.exec = Jvm.exec) (hb : c.code = cc) (hr : meth.sig.returnType = some .int) (hlocks : meth.locks = false) (hP : va_P D vwCl ws2 H) (hD : va_D (va_A ws s.heap.size) ws2) (hS : va_S (va_A ws s.heap.size) s.heap H locs) (he : x = v) (hdg : decode cc pc = .ok (.ireturn, 1)) :
    W p l e R s m args below meth c H locs 0 0 (MQ below (oo_MQi D ws ws2 s.heap.size v) args s 0 0 (va_A ws s.heap.size)) (F0 m pc ls [.int x]) := W.iret hx hb hr (fun t ht hW => ⟨⟨x, (), rfl, he, by rw [ht]; exact hP, hD⟩, hS.F ht⟩) hS.2.2 hdg hlocks
theorem mu_retl {ws2 : va_W} {x v : Int64} (hx : p.tables.exec = Jvm.exec) (hb : c.code = cc) (hr : meth.sig.returnType = some .long) (hlocks : meth.locks = false) (hP : va_P D vwCl ws2 H) (hD : va_D (va_A ws s.heap.size) ws2) (hS : va_S (va_A ws s.heap.size) s.heap H locs) (he : x = v) (hdg : decode cc pc = .ok (.lreturn, 1)) :
    W p l e R s m args below meth c H locs 0 0 (MQ below (oo_MQl D ws ws2 s.heap.size v) args s 0 0 (va_A ws s.heap.size)) (F0 m pc ls [.long x]) := W.lret hx hb hr (fun t ht hW => ⟨⟨x, (), rfl, he, by rw [ht]; exact hP, hD⟩, hS.F ht⟩) hS.2.2 hdg hlocks
theorem mu_retd {ws2 : va_W} {x v : UInt64} (hx : p.tables.exec = Jvm.exec) (hb : c.code = cc) (hr : meth.sig.returnType = some .double) (hlocks : meth.locks = false) (hP : va_P D vwCl ws2 H) (hD : va_D (va_A ws s.heap.size) ws2) (hS : va_S (va_A ws s.heap.size) s.heap H locs) (he : x = v) (hdg : decode cc pc = .ok (.dreturn, 1)) :
    W p l e R s m args below meth c H locs 0 0 (MQ below (oo_MQd D ws ws2 s.heap.size v) args s 0 0 (va_A ws s.heap.size)) (F0 m pc ls [.double x]) := W.dret hx hb hr (fun t ht hW => ⟨⟨x, (), rfl, he, by rw [ht]; exact hP, hD⟩, hS.F ht⟩) hS.2.2 hdg hlocks
theorem mu_retv {ws2 : va_W} (hx : p.tables.exec = Jvm.exec) (hb : c.code = cc) (hr : meth.sig.returnType = none) (hlocks : meth.locks = false) (hP : va_P D vwCl ws2 H) (hD : va_D (va_A ws s.heap.size) ws2) (hS : va_S (va_A ws s.heap.size) s.heap H locs) (hdg : decode cc pc = .ok (.return_, 1)) :
    W p l e R s m args below meth c H locs 0 0 (MQ below (oo_MQv D ws ws2 s.heap.size) args s 0 0 (va_A ws s.heap.size)) (F0 m pc ls []) := W.vret hx hb hr (fun t ht hW => ⟨⟨(), rfl, trivial, by rw [ht]; exact hP, hD⟩, hS.F ht⟩) hS.2.2 hdg hlocks
end OO
theorem oo_A (ws : va_W) (s : State) : ∀ q : Nat, s.heap.size ≤ q → va_A ws s.heap.size q := fun _ h => Or.inr h
/-- the worlds of the two objects -/
abbrev xW (cJ : ClassId) (h a1 a2 a3 a4 a5 : Nat) (u d lw uw an : Nat → Int64) (fc qc : Int32) (sd : Int64) : va_W := [(h, .inr (0, [.ref a1, .ref a2, .ref a3, .ref a4, .ref a5, .int fc, .int qc, .long sd])), (a1, .inl (cJ, 12, .inr (.inl u))), (a2, .inl (cJ, 12, .inr (.inl d))), (a3, .inl (cJ, 64, .inr (.inl lw))), (a4, .inl (cJ, 64, .inr (.inl uw))), (a5, .inl (cJ, 2560, .inr (.inl an)))]
abbrev mW (cI cZ : ClassId) (h b1 b2 b3 : Nat) (u d tr : Nat → Int32) (fc qc : Int32) (sd : Int64) (th : Int32) : va_W := [(h, .inr (1, [.ref b1, .ref b2, .int fc, .ref b3, .int qc, .long sd, .int th])), (b1, .inl (cI, 12, .inl u)), (b2, .inl (cI, 12, .inl d)), (b3, .inl (cZ, 163840, .inl tr))]
theorem oo_inc (n c : Nat) : nI n + Int32.ofInt (c : Int) = nI (n + c) := by
  rw [← nI_add]; rfl
theorem oo_loop {p : Program} {l : Launch} {e : Env} {R : Room} {s : State} {m : MethodId} {args : Array Value} {below : List Frame} {meth : Method} {c : Code} {H : Heap} {locs : List Loc} {cells slots : Nat} {Q : State → Prop} {pc : Nat} {ls : Array Slot} {st : List Value} {N : Nat}
    (Inv : Nat → Heap → List Loc → Array Slot → Prop) (ex : ∀ (H : Heap) (locs : List Loc) (ls : Array Slot), Inv N H locs ls → W p l e R s m args below meth c H locs cells slots Q (F0 m pc ls st))
    (step : ∀ n : Nat, n < N → (∀ (H : Heap) (locs : List Loc) (ls : Array Slot), Inv (n + 1) H locs ls → W p l e R s m args below meth c H locs cells slots Q (F0 m pc ls st)) → ∀ (H : Heap) (locs : List Loc) (ls : Array Slot), Inv n H locs ls → W p l e R s m args below meth c H locs cells slots Q (F0 m pc ls st))
    (n0 : Nat) (hn : n0 ≤ N) (h0 : Inv n0 H locs ls) : W p l e R s m args below meth c H locs cells slots Q (F0 m pc ls st) := by
  have h : ∀ (k n : Nat), n ≤ N → N - n ≤ k → ∀ (H : Heap) (locs : List Loc) (ls : Array Slot), Inv n H locs ls → W p l e R s m args below meth c H locs cells slots Q (F0 m pc ls st) := by
    intro k
    induction k with
    | zero =>
      intro n h1 h2 H locs ls hI
      have e1 : n = N := by omega
      exact ex H locs ls (e1 ▸ hI)
    | succ k ih =>
      intro n h1 h2 H locs ls hI
      by_cases h3 : n = N
      · exact ex H locs ls (h3 ▸ hI)
      · exact step n (by omega) (fun H locs ls hI => ih (n + 1) (by omega) (by omega) H locs ls hI) H locs ls hI
  exact h (N - n0) n0 hn (Nat.le_refl _) H locs ls h0
theorem oo_Dre {A : Nat → Prop} {ws ws2 : va_W} (h : va_D A ws) (e : ws2.map (fun q => q.1) = ws.map (fun q => q.1)) : va_D A ws2 := by
  have old : ∀ (k : Nat) (q : Nat × va_E), ws2[k]? = some q → ∃ r, ws[k]? = some r ∧ r.1 = q.1 := by
    intro k q hq
    have h1 : (ws2.map (fun q => q.1))[k]? = some q.1 := by rw [List.getElem?_map, hq]; rfl
    rw [e, List.getElem?_map] at h1
    cases hw : ws[k]? with
    | none => rw [hw] at h1; cases h1
    | some r => rw [hw] at h1; exact ⟨r, rfl, Option.some.inj h1⟩
  refine ⟨fun i j p q hi hj hpq => ?_, fun k q hq => ?_⟩
  · obtain ⟨r1, g1, e1⟩ := old i p hi
    obtain ⟨r2, g2, e2⟩ := old j q hj
    exact h.1 i j r1 r2 g1 g2 (by rw [e1, e2]; exact hpq)
  · obtain ⟨r, g, e1⟩ := old k q hq
    rw [← e1]
    exact h.2 k r g
theorem oo_fc {a : Nat} {x y : va_E} {xs ys : va_W} (h : List.map (fun q : Nat × va_E => q.1) xs = List.map (fun q : Nat × va_E => q.1) ys) : List.map (fun q : Nat × va_E => q.1) ((a, x) :: xs) = List.map (fun q : Nat × va_E => q.1) ((a, y) :: ys) := congrArg (a :: ·) h
/-- .. with the static row of six longs beside it -/
def oo_preZ (D : va_G) (ws : va_W) (tys : List (ClassId × FieldType)) (t : Nat) (f : Nat → Int64) : State → Prop := fun U => oo_pre D ws tys U ∧ va_Z "OddsSampling" "WITHOUT_FACT" "[J" (.ref t) oo_N U U.heap ∧ va_T .long t 6 (fun j => .long (f j)) oo_N U U.heap
theorem oo_blindZ {av : List Value} {D : va_G} {ws : va_W} {tys : List (ClassId × FieldType)} {t : Nat} {f : Nat → Int64} : FrameBlind (va_Pc av (oo_preZ D ws tys t f)) := fun a U g mk q => ⟨q.1, ⟨q.2.1.1, va_K.moved (u := U) (U := U.calling g mk a) (Vm.Alike.refl U.vm) q.2.1.2⟩, va_Z.moved (u := U) (U := U.calling g mk a) (Vm.Alike.refl U.vm) q.2.2.1, va_T.moved (u := U) (U := U.calling g mk a) (Vm.Alike.refl U.vm) q.2.2.2⟩
abbrev RzI (l : Launch) (y : MethodName) (wy : List Cond) (rm : Room) (av : List Value) (D : va_G) (ws : va_W) (tys : List (ClassId × FieldType)) (t : Nat) (f : Nat → Int64) (v : Int32) : Prop := Met l y wy rm (va_Pc av (oo_preZ D ws tys t f)) (oo_RQi v) 0 0 oo_N
theorem oo_psZ {s : State} {H : Heap} {locs : List Loc} {A : Nat → Prop} {D : va_G} {ws wc : va_W} {tys Rc : List (ClassId × FieldType)} {av : List Value} {t : Nat} {f : Nat → Int64} (hP : va_P D vwCl ws H) (hK : va_K D vwCl tys s) (hZ : va_Z "OddsSampling" "WITHOUT_FACT" "[J" (.ref t) A s s.heap) (hT : va_T .long t 6 (fun j => .long (f j)) A s s.heap) (hS : va_S A s.heap H locs)
    (is : List Nat) (hs : is.filterMap (fun i => ws[i]?) = wc) (js : List Nat) (ht : js.filterMap (fun i => tys[i]?) = Rc) :
    ∀ U : State, U.heap = H → s.WarmedH U.vm → va_Pc av (oo_preZ D wc Rc t f) av.toArray U := fun U hU hW => ⟨rfl, ⟨by rw [hU]; exact hP.sub is hs, va_K.moved hW.alike (hK.sub js ht)⟩,
      by rw [hU]; exact (va_Z.moved hW.alike (hZ.kept (fun a h1 h2 => hS.2.1 a h1 h2))).narrow (fun q h => h.elim), by rw [hU]; exact (va_T.moved hW.alike (hT.kept (fun a h1 h2 => hS.2.1 a h1 h2))).narrow (fun q h => h.elim)⟩
theorem oo_blindT {av : List Value} {t : Nat} {f : Nat → Int64} : FrameBlind (va_Pc av (fun U => va_T .long t 6 (fun j => .long (f j)) oo_N U U.heap)) := fun a U g mk q => ⟨q.1, va_T.moved (u := U) (U := U.calling g mk a) (Vm.Alike.refl U.vm) q.2⟩
theorem oo_psT {s : State} {H : Heap} {locs : List Loc} {A : Nat → Prop} {av : List Value} {t : Nat} {f : Nat → Int64} (hT : va_T .long t 6 (fun j => .long (f j)) A s s.heap) (hS : va_S A s.heap H locs) :
    ∀ U : State, U.heap = H → s.WarmedH U.vm → va_Pc av (fun U => va_T .long t 6 (fun j => .long (f j)) oo_N U U.heap) av.toArray U := fun U hU hW => ⟨rfl, by show va_T .long t 6 (fun j => .long (f j)) oo_N U U.heap; rw [hU]; exact (va_T.moved hW.alike (hT.kept (fun a h1 h2 => hS.2.1 a h1 h2))).narrow (fun q h => h.elim)⟩
theorem oo_cls {s : State} {D : va_G} {cl : List vw_C} {tys : List (ClassId × FieldType)} {c1 c2 : ClassId} {ty : FieldType} (hK : va_K D cl tys s) (i j : Nat) (h1 : tys[i]? = some (c1, ty)) (h2 : tys[j]? = some (c2, ty)) (hp : ∀ C, ty ≠ .object C := by intro C h; cases h) : c1 = c2 := by
  have a1 := (hK.2 i _ h1).2
  have a2 := (hK.2 j _ h2).2
  cases ty <;> first | (exact absurd rfl (hp _)) | exact Option.some.inj (a1.symm.trans a2)
