section
-- ===== PART A: goes FIRST, ahead of the names: the tables' words, and 'selects' of the private methods out of them =====
/-- a private method of a class that the tables say can be made, by its rows of tables_1 -/
def lw_okq (q : MethodName × Nat) : Prop := (q.1.cls ≠ "java/lang/invoke/MethodHandle" ∧ q.1.cls ≠ "java/lang/invoke/VarHandle") ∧ Cond.instantiable q.1.cls q.2 ∈ tables_1 ∧ Cond.privateMethod q.1 ∈ tables_1 ∧ Cond.instanceMethod q.1 ∈ tables_1
theorem lw_p0 : lw_okq (⟨"OddsSampling", "weigh", "()V"⟩, 8) := ⟨⟨by decide +kernel, by decide +kernel⟩, List.mem_of_getElem? (i := 10) (by decide +kernel), List.mem_of_getElem? (i := 21) (by decide +kernel), List.mem_of_getElem? (i := 22) (by decide +kernel)⟩
theorem lw_p1 : lw_okq (⟨"OddsSampling", "weighHalf", "([JI)V"⟩, 8) := ⟨⟨by decide +kernel, by decide +kernel⟩, List.mem_of_getElem? (i := 10) (by decide +kernel), List.mem_of_getElem? (i := 25) (by decide +kernel), List.mem_of_getElem? (i := 26) (by decide +kernel)⟩
theorem lw_p2 : lw_okq (⟨"OddsSampling", "putOdds", "(IJJ)V"⟩, 8) := ⟨⟨by decide +kernel, by decide +kernel⟩, List.mem_of_getElem? (i := 10) (by decide +kernel), List.mem_of_getElem? (i := 65) (by decide +kernel), List.mem_of_getElem? (i := 66) (by decide +kernel)⟩
theorem lw_p3 : lw_okq (⟨"OddsSampling", "isFact", "(I)Z"⟩, 8) := ⟨⟨by decide +kernel, by decide +kernel⟩, List.mem_of_getElem? (i := 10) (by decide +kernel), List.mem_of_getElem? (i := 73) (by decide +kernel), List.mem_of_getElem? (i := 74) (by decide +kernel)⟩
theorem lw_p4 : lw_okq (⟨"OddsSampling", "areFacts", "(I)Z"⟩, 8) := ⟨⟨by decide +kernel, by decide +kernel⟩, List.mem_of_getElem? (i := 10) (by decide +kernel), List.mem_of_getElem? (i := 81) (by decide +kernel), List.mem_of_getElem? (i := 82) (by decide +kernel)⟩
theorem lw_p5 : lw_okq (⟨"OddsSampling", "allFacts", "()I"⟩, 8) := ⟨⟨by decide +kernel, by decide +kernel⟩, List.mem_of_getElem? (i := 10) (by decide +kernel), List.mem_of_getElem? (i := 85) (by decide +kernel), List.mem_of_getElem? (i := 86) (by decide +kernel)⟩
theorem lw_p6 : lw_okq (⟨"OddsSampling", "isFull", "()Z"⟩, 8) := ⟨⟨by decide +kernel, by decide +kernel⟩, List.mem_of_getElem? (i := 10) (by decide +kernel), List.mem_of_getElem? (i := 89) (by decide +kernel), List.mem_of_getElem? (i := 90) (by decide +kernel)⟩
theorem lw_p7 : lw_okq (⟨"OddsSampling", "putNextBlock", "(IJ)V"⟩, 8) := ⟨⟨by decide +kernel, by decide +kernel⟩, List.mem_of_getElem? (i := 10) (by decide +kernel), List.mem_of_getElem? (i := 96) (by decide +kernel), List.mem_of_getElem? (i := 97) (by decide +kernel)⟩
theorem lw_p8 : lw_okq (⟨"OddsSampling", "keepNext", "()I"⟩, 8) := ⟨⟨by decide +kernel, by decide +kernel⟩, List.mem_of_getElem? (i := 10) (by decide +kernel), List.mem_of_getElem? (i := 100) (by decide +kernel), List.mem_of_getElem? (i := 101) (by decide +kernel)⟩
theorem lw_p9 : lw_okq (⟨"OddsSampling", "isQuestion", "(I)Z"⟩, 8) := ⟨⟨by decide +kernel, by decide +kernel⟩, List.mem_of_getElem? (i := 10) (by decide +kernel), List.mem_of_getElem? (i := 108) (by decide +kernel), List.mem_of_getElem? (i := 109) (by decide +kernel)⟩
theorem lw_p10 : lw_okq (⟨"OddsSampling", "blockOf", "(II)J"⟩, 8) := ⟨⟨by decide +kernel, by decide +kernel⟩, List.mem_of_getElem? (i := 10) (by decide +kernel), List.mem_of_getElem? (i := 112) (by decide +kernel), List.mem_of_getElem? (i := 113) (by decide +kernel)⟩
theorem lw_p11 : lw_okq (⟨"OddsSampling", "isTrue", "(II)Z"⟩, 8) := ⟨⟨by decide +kernel, by decide +kernel⟩, List.mem_of_getElem? (i := 10) (by decide +kernel), List.mem_of_getElem? (i := 137) (by decide +kernel), List.mem_of_getElem? (i := 138) (by decide +kernel)⟩
theorem lw_p12 : lw_okq (⟨"OddsSampling", "sumOfBoth", "(II)J"⟩, 8) := ⟨⟨by decide +kernel, by decide +kernel⟩, List.mem_of_getElem? (i := 10) (by decide +kernel), List.mem_of_getElem? (i := 151) (by decide +kernel), List.mem_of_getElem? (i := 152) (by decide +kernel)⟩
theorem lw_p13 : lw_okq (⟨"OddsSampling", "lowerSum", "(J)J"⟩, 8) := ⟨⟨by decide +kernel, by decide +kernel⟩, List.mem_of_getElem? (i := 10) (by decide +kernel), List.mem_of_getElem? (i := 155) (by decide +kernel), List.mem_of_getElem? (i := 156) (by decide +kernel)⟩
theorem lw_p14 : lw_okq (⟨"OddsSampling", "allBut", "(I)J"⟩, 8) := ⟨⟨by decide +kernel, by decide +kernel⟩, List.mem_of_getElem? (i := 10) (by decide +kernel), List.mem_of_getElem? (i := 159) (by decide +kernel), List.mem_of_getElem? (i := 160) (by decide +kernel)⟩
theorem lw_p15 : lw_okq (⟨"OddsSampling", "sumWhenSurely", "(III)J"⟩, 8) := ⟨⟨by decide +kernel, by decide +kernel⟩, List.mem_of_getElem? (i := 10) (by decide +kernel), List.mem_of_getElem? (i := 178) (by decide +kernel), List.mem_of_getElem? (i := 179) (by decide +kernel)⟩
def lw_privs_1 : List (MethodName × Nat) := [(⟨"OddsSampling", "weigh", "()V"⟩, 8), (⟨"OddsSampling", "weighHalf", "([JI)V"⟩, 8), (⟨"OddsSampling", "putOdds", "(IJJ)V"⟩, 8), (⟨"OddsSampling", "isFact", "(I)Z"⟩, 8), (⟨"OddsSampling", "areFacts", "(I)Z"⟩, 8), (⟨"OddsSampling", "allFacts", "()I"⟩, 8), (⟨"OddsSampling", "isFull", "()Z"⟩, 8), (⟨"OddsSampling", "putNextBlock", "(IJ)V"⟩, 8), (⟨"OddsSampling", "keepNext", "()I"⟩, 8), (⟨"OddsSampling", "isQuestion", "(I)Z"⟩, 8), (⟨"OddsSampling", "blockOf", "(II)J"⟩, 8), (⟨"OddsSampling", "isTrue", "(II)Z"⟩, 8), (⟨"OddsSampling", "sumOfBoth", "(II)J"⟩, 8), (⟨"OddsSampling", "lowerSum", "(J)J"⟩, 8), (⟨"OddsSampling", "allBut", "(I)J"⟩, 8), (⟨"OddsSampling", "sumWhenSurely", "(III)J"⟩, 8)]
theorem lw_r1 : ∀ q ∈ lw_privs_1, lw_okq q := List.forall_mem_cons.mpr ⟨lw_p0, List.forall_mem_cons.mpr ⟨lw_p1, List.forall_mem_cons.mpr ⟨lw_p2, List.forall_mem_cons.mpr ⟨lw_p3, List.forall_mem_cons.mpr ⟨lw_p4, List.forall_mem_cons.mpr ⟨lw_p5, List.forall_mem_cons.mpr ⟨lw_p6, List.forall_mem_cons.mpr ⟨lw_p7, List.forall_mem_cons.mpr ⟨lw_p8, List.forall_mem_cons.mpr ⟨lw_p9, List.forall_mem_cons.mpr ⟨lw_p10, List.forall_mem_cons.mpr ⟨lw_p11, List.forall_mem_cons.mpr ⟨lw_p12, List.forall_mem_cons.mpr ⟨lw_p13, List.forall_mem_cons.mpr ⟨lw_p14, List.forall_mem_cons.mpr ⟨lw_p15, fun _ h => absurd h List.not_mem_nil⟩⟩⟩⟩⟩⟩⟩⟩⟩⟩⟩⟩⟩⟩⟩⟩
theorem lw_p16 : lw_okq (⟨"OddsSampling", "hangsOn", "(II)Z"⟩, 8) := ⟨⟨by decide +kernel, by decide +kernel⟩, List.mem_of_getElem? (i := 10) (by decide +kernel), List.mem_of_getElem? (i := 186) (by decide +kernel), List.mem_of_getElem? (i := 187) (by decide +kernel)⟩
theorem lw_p17 : lw_okq (⟨"OddsSampling", "changesWith", "(III)Z"⟩, 8) := ⟨⟨by decide +kernel, by decide +kernel⟩, List.mem_of_getElem? (i := 10) (by decide +kernel), List.mem_of_getElem? (i := 190) (by decide +kernel), List.mem_of_getElem? (i := 191) (by decide +kernel)⟩
theorem lw_p18 : lw_okq (⟨"OddsSampling", "likeliestWorld", "(I)I"⟩, 8) := ⟨⟨by decide +kernel, by decide +kernel⟩, List.mem_of_getElem? (i := 10) (by decide +kernel), List.mem_of_getElem? (i := 200) (by decide +kernel), List.mem_of_getElem? (i := 201) (by decide +kernel)⟩
theorem lw_p19 : lw_okq (⟨"OddsSampling", "weightOf", "(I)J"⟩, 8) := ⟨⟨by decide +kernel, by decide +kernel⟩, List.mem_of_getElem? (i := 10) (by decide +kernel), List.mem_of_getElem? (i := 204) (by decide +kernel), List.mem_of_getElem? (i := 205) (by decide +kernel)⟩
theorem lw_p20 : lw_okq (⟨"OddsSampling", "drawWorld", "()I"⟩, 8) := ⟨⟨by decide +kernel, by decide +kernel⟩, List.mem_of_getElem? (i := 10) (by decide +kernel), List.mem_of_getElem? (i := 231) (by decide +kernel), List.mem_of_getElem? (i := 232) (by decide +kernel)⟩
theorem lw_p21 : lw_okq (⟨"OddsSampling", "draw", "()J"⟩, 8) := ⟨⟨by decide +kernel, by decide +kernel⟩, List.mem_of_getElem? (i := 10) (by decide +kernel), List.mem_of_getElem? (i := 235) (by decide +kernel), List.mem_of_getElem? (i := 236) (by decide +kernel)⟩
theorem lw_p22 : lw_okq (⟨"java/lang/Throwable", "fillInStackTrace", "(I)Ljava/lang/Throwable;"⟩, 6) := ⟨⟨by decide +kernel, by decide +kernel⟩, List.mem_of_getElem? (i := 293) (by decide +kernel), List.mem_of_getElem? (i := 291) (by decide +kernel), List.mem_of_getElem? (i := 292) (by decide +kernel)⟩
theorem lw_p23 : lw_okq (⟨"OddsSamplingModel", "areFacts", "(I)Z"⟩, 7) := ⟨⟨by decide +kernel, by decide +kernel⟩, List.mem_of_getElem? (i := 324) (by decide +kernel), List.mem_of_getElem? (i := 374) (by decide +kernel), List.mem_of_getElem? (i := 375) (by decide +kernel)⟩
theorem lw_p24 : lw_okq (⟨"OddsSamplingModel", "isQuestion", "(I)Z"⟩, 7) := ⟨⟨by decide +kernel, by decide +kernel⟩, List.mem_of_getElem? (i := 324) (by decide +kernel), List.mem_of_getElem? (i := 382) (by decide +kernel), List.mem_of_getElem? (i := 383) (by decide +kernel)⟩
theorem lw_p25 : lw_okq (⟨"OddsSamplingModel", "isTrue", "(II)Z"⟩, 7) := ⟨⟨by decide +kernel, by decide +kernel⟩, List.mem_of_getElem? (i := 324) (by decide +kernel), List.mem_of_getElem? (i := 386) (by decide +kernel), List.mem_of_getElem? (i := 387) (by decide +kernel)⟩
theorem lw_p26 : lw_okq (⟨"OddsSamplingModel", "sum", "(I)J"⟩, 7) := ⟨⟨by decide +kernel, by decide +kernel⟩, List.mem_of_getElem? (i := 324) (by decide +kernel), List.mem_of_getElem? (i := 405) (by decide +kernel), List.mem_of_getElem? (i := 406) (by decide +kernel)⟩
theorem lw_p27 : lw_okq (⟨"OddsSamplingModel", "weigh", "(I)J"⟩, 7) := ⟨⟨by decide +kernel, by decide +kernel⟩, List.mem_of_getElem? (i := 324) (by decide +kernel), List.mem_of_getElem? (i := 409) (by decide +kernel), List.mem_of_getElem? (i := 410) (by decide +kernel)⟩
theorem lw_p28 : lw_okq (⟨"OddsSamplingModel", "all", "()J"⟩, 7) := ⟨⟨by decide +kernel, by decide +kernel⟩, List.mem_of_getElem? (i := 324) (by decide +kernel), List.mem_of_getElem? (i := 413) (by decide +kernel), List.mem_of_getElem? (i := 414) (by decide +kernel)⟩
theorem lw_p29 : lw_okq (⟨"OddsSamplingModel", "part", "(JJI)J"⟩, 7) := ⟨⟨by decide +kernel, by decide +kernel⟩, List.mem_of_getElem? (i := 324) (by decide +kernel), List.mem_of_getElem? (i := 417) (by decide +kernel), List.mem_of_getElem? (i := 418) (by decide +kernel)⟩
theorem lw_p30 : lw_okq (⟨"OddsSamplingModel", "best", "(I)I"⟩, 7) := ⟨⟨by decide +kernel, by decide +kernel⟩, List.mem_of_getElem? (i := 324) (by decide +kernel), List.mem_of_getElem? (i := 450) (by decide +kernel), List.mem_of_getElem? (i := 451) (by decide +kernel)⟩
theorem lw_p31 : lw_okq (⟨"OddsSamplingModel", "draw", "()I"⟩, 7) := ⟨⟨by decide +kernel, by decide +kernel⟩, List.mem_of_getElem? (i := 324) (by decide +kernel), List.mem_of_getElem? (i := 471) (by decide +kernel), List.mem_of_getElem? (i := 472) (by decide +kernel)⟩
def lw_privs_2 : List (MethodName × Nat) := [(⟨"OddsSampling", "hangsOn", "(II)Z"⟩, 8), (⟨"OddsSampling", "changesWith", "(III)Z"⟩, 8), (⟨"OddsSampling", "likeliestWorld", "(I)I"⟩, 8), (⟨"OddsSampling", "weightOf", "(I)J"⟩, 8), (⟨"OddsSampling", "drawWorld", "()I"⟩, 8), (⟨"OddsSampling", "draw", "()J"⟩, 8), (⟨"java/lang/Throwable", "fillInStackTrace", "(I)Ljava/lang/Throwable;"⟩, 6), (⟨"OddsSamplingModel", "areFacts", "(I)Z"⟩, 7), (⟨"OddsSamplingModel", "isQuestion", "(I)Z"⟩, 7), (⟨"OddsSamplingModel", "isTrue", "(II)Z"⟩, 7), (⟨"OddsSamplingModel", "sum", "(I)J"⟩, 7), (⟨"OddsSamplingModel", "weigh", "(I)J"⟩, 7), (⟨"OddsSamplingModel", "all", "()J"⟩, 7), (⟨"OddsSamplingModel", "part", "(JJI)J"⟩, 7), (⟨"OddsSamplingModel", "best", "(I)I"⟩, 7), (⟨"OddsSamplingModel", "draw", "()I"⟩, 7)]
theorem lw_r2 : ∀ q ∈ lw_privs_2, lw_okq q := List.forall_mem_cons.mpr ⟨lw_p16, List.forall_mem_cons.mpr ⟨lw_p17, List.forall_mem_cons.mpr ⟨lw_p18, List.forall_mem_cons.mpr ⟨lw_p19, List.forall_mem_cons.mpr ⟨lw_p20, List.forall_mem_cons.mpr ⟨lw_p21, List.forall_mem_cons.mpr ⟨lw_p22, List.forall_mem_cons.mpr ⟨lw_p23, List.forall_mem_cons.mpr ⟨lw_p24, List.forall_mem_cons.mpr ⟨lw_p25, List.forall_mem_cons.mpr ⟨lw_p26, List.forall_mem_cons.mpr ⟨lw_p27, List.forall_mem_cons.mpr ⟨lw_p28, List.forall_mem_cons.mpr ⟨lw_p29, List.forall_mem_cons.mpr ⟨lw_p30, List.forall_mem_cons.mpr ⟨lw_p31, fun _ h => absurd h List.not_mem_nil⟩⟩⟩⟩⟩⟩⟩⟩⟩⟩⟩⟩⟩⟩⟩⟩
def lw_privs : List (MethodName × Nat) := lw_privs_1 ++ (lw_privs_2)
def lw_tbl : List Cond := k2_sels lw_privs ++ tables_1
theorem lw_privs_ok : ∀ q ∈ lw_privs, lw_okq q := by
  show ∀ q ∈ lw_privs_1 ++ (lw_privs_2), lw_okq q
  exact List.forall_mem_append.mpr ⟨lw_r1, lw_r2⟩
/-- the streams that the claim lets the run draw from -/
abbrev lw_cs : List Choice := [Jvm.Choice.named "NaN.bits"]
theorem lw_bits : nanBits ∈ lw_cs := by first | decide | exact List.mem_cons_self | simp [lw_cs, nanBits]
-- ===== end of PART A; then your names; then what follows =====
end
section
/-! ===== BEGIN words of one list among another's, by their places ===== -/
theorem goodIn_r {big : List Cond} (ws : List Cond) (ps : List Nat) (hp : ws = ps.filterMap (fun i => big[i]?)) (h : ws.all goodWord = true) : GoodIn big ws := by
  intro w hw
  have h1 := List.all_eq_true.mp h w hw
  rw [hp] at hw
  obtain ⟨i, -, hi⟩ := List.mem_filterMap.mp hw
  have hm : w ∈ big := by first | exact List.mem_of_getElem? hi | exact List.getElem?_mem hi
  exact ⟨hm, good_of_word h1⟩
theorem goodIn_app {big a b : List Cond} (ha : GoodIn big a) (hb : GoodIn big b) : GoodIn big (a ++ b) := fun w h => (List.mem_append.mp h).elim (ha w) (hb w)
theorem goodIn_ca {big a b : List Cond} {c : Cond} (ha : GoodIn big (c :: a)) (hb : GoodIn big b) : GoodIn big (c :: (a ++ b)) := fun w h => (List.mem_cons.mp h).elim (fun e => ha w (List.mem_cons.mpr (Or.inl e))) (fun h => (List.mem_append.mp h).elim (fun h => ha w (List.mem_cons.mpr (Or.inr h))) (hb w))
theorem goodIn_sub {big ws : List Cond} (hm : ∀ w ∈ ws, w ∈ big) (h : ws.all goodWord = true) : GoodIn big ws := fun w hw => ⟨hm w hw, good_of_word (List.all_eq_true.mp h w hw)⟩
/-! ===== END ===== -/

/-! ===== BEGIN exceptions that leave a method, and their catching by the caller (launches without stack traces) ===== -/
section VXA
/-! The laws vx_back, vx_callV, vx_callS, vx_callSW, vx_throw0, vx_throwS follow proofs of the library, with one case more: JvmDerived/Free/Laws.lean (Back.of_free), Shelf42/LK1.lean (callV, callS), Shelf/KitTraced.lean (throwNew0V, throwNewS). -/
/-- where a method has thrown q: the class by its name, the cell, what was written, the world -/
def vx_T (XC : String → State → State → Prop) (st : State) (q : Addr) (t : State) (mc ms : Nat) (free : Addr → Prop) : Prop :=
  ∃ (E : String) (ce : Cell) (L : List Loc), XC E st t ∧ t.heap[q]? = some ce ∧ ce.vm = .none ∧ st.vm.findClass E = some ce.cls ∧ st.WarmedH t.vm ∧ st.sameButNew ({ t with vm := st.vm } : State) L mc ms ∧ ∀ z ∈ L, free z.base
def vx_Q (Qc : Array Value → State → Outcome → State → Prop) (XC : String → State → State → Prop) (mc ms : Nat) (free : Addr → Prop) : Array Value → State → Outcome → State → Prop := fun a st o t =>
  (Qc a st o t ∧ ∃ L, FrameEnd st o t L mc ms ∧ ∀ q ∈ L, free q.base) ∨ ∃ q, o = .threw q ∧ vx_T XC st q t mc ms free
/-- a callee that returns or throws -/
def vx_Met (l : Launch) (y : MethodName) (ws : List Cond) (rm : Room) (Pc : Array Value → State → Prop) (Qc : Array Value → State → Outcome → State → Prop) (XC : String → State → State → Prop) (mc ms : Nat) (free : Addr → Prop) : Prop :=
  MetFree l y (headSpec ws rm) Pc (fun _ _ _ _ _ => True) (vx_Q Qc XC mc ms free)
def vx_Post (XC : String → State → State → Prop) (mc ms : Nat) (free : Addr → Prop) : Pt → Array Value → Addr → Pt → Prop := fun A a q B =>
  ∃ (g : JFrame) (mk : MethodId) (t : State) (L : List Loc) (E : String) (ce : Cell), B.U.heap = t.heap ∧ B.U.vm = t.vm ∧ XC E (A.U.calling g mk a) t ∧ t.heap[q]? = some ce ∧ ce.vm = .none ∧ A.U.vm.findClass E = some ce.cls ∧ B.locs = A.locs ++ L ∧ (∀ z ∈ L, free z.base) ∧ B.cells = A.cells + mc ∧ B.slots = A.slots + ms
def vx_Back (l : Launch) (R : Room) (p : Program) (e : Env) (below : List Frame) (s : State) (sargs : Array Value) (y : MethodName) (len W9 : Nat)
    (Pre : Pt → Array Value → Prop) (Post : Pt → Array Value → Option Value → Pt → Prop) (PostX : Pt → Array Value → Addr → Pt → Prop) : Prop :=
  ∀ (m : MethodId) (meth : Method) (c : Code) (A : Pt) (g : JFrame) (ig : Instr) (mk : MethodId) (a : Array Value),
    Stand p l e R s m sargs below meth c A.U A.locs A.cells A.slots → g.method = m → g.locals.size = c.maxLocals → decode c.code g.pc = .ok (ig, len) →
    2 * g.monitorRoom + (g.stack.map fun v => v.category).sum ≤ W9 → A.U.methodNamed? y = some mk → Pre A a →
    (∃ (v : Option Value) (B : Pt), Stand p l e R s m sargs below meth c B.U B.locs B.cells B.slots ∧ Post A a v B ∧
      Steps p.tables e below (doInvoke e (A.U.setTop g) [] mk a).1 (B.U.setTop { g with pc := g.pc + len, stack := v.toList ++ g.stack })) ∨
    (∃ (q : Addr) (B : Pt), Stand p l e R s m sargs below meth c B.U B.locs B.cells B.slots ∧ PostX A a q B ∧
      Steps p.tables e below (doInvoke e (A.U.setTop g) [] mk a).1 ((B.U.setTop g).pushFrame (.throwing q)))
section Payer
variable {l : Launch} {R : Room} {p : Program} {e : Env} {below : List Frame} {s : State} {sargs : Array Value} {y : MethodName} {len W9 : Nat}
theorem vx_back {ws : List Cond} {rm : Room} {Pc : Array Value → State → Prop} {Qc : Array Value → State → Outcome → State → Prop} {XC : String → State → State → Prop} {mc ms : Nat} {free : Addr → Prop} {bytes : ByteArray} {maxL : Nat} {ret : Option FieldType}
    (hM : vx_Met l y ws rm Pc Qc XC mc ms free) (hblind : FrameBlind Pc) (hrc : rm.cells = mc) (hrs : rm.slots = ms)
    (hframes : rm.frames + 1 ≤ R.frames) (hlocals : W9 + (maxL + 11) + rm.locals ≤ R.locals)
    (hws : ∀ w ∈ ws, ∀ a' U, s.WarmedH U.vm → w.before a' U = true) (hcode : Cond.code y bytes maxL ret ∈ ws) (hinit : ∀ a' U, s.WarmedH U.vm → (Cond.initialized y.cls).before a' U = true) :
    vx_Back l R p e below s sargs y len W9 (PreOf R mc ms Pc) (PostOf Qc mc ms free) (vx_Post XC mc ms free) := by
  intro m meth c A g ig mk a X hg hsize hdg hW hn hp
  have h1 : (headSpec ws rm).pre.before a A.U = true := atoms_intro fun w hw => hws w hw _ _ X.warmed
  have h2 : (Cond.code y bytes maxL ret).before a A.U = true := hws _ hcode _ _ X.warmed
  have h3 : (Cond.initialized y.cls).before a A.U = true := hinit _ _ X.warmed
  have h4 : A.cells + (headSpec ws rm).room.cells ≤ R.cells := by rw [show (headSpec ws rm).room.cells = mc from hrc]; exact hp.1
  have h5 : A.slots + (headSpec ws rm).room.slots ≤ R.slots := by rw [show (headSpec ws rm).room.slots = ms from hrs]; exact hp.2.1
  have hPc : Pc a (A.U.calling g mk a) := hblind _ _ _ _ hp.2.2
  obtain ⟨U, Ls, c0, s0⟩ := A
  dsimp only [Pt.U, Pt.locs, Pt.cells, Pt.slots] at h1 h2 h3 h4 h5 X hn hPc ⊢
  obtain ⟨methY, cY, hmY, hcY, -, hlY, -, -, -, -⟩ := Cond.code_spec hn h2
  obtain ⟨kY, hkY, -⟩ := className_of_methodNamed hn
  have hinitY : kY.init = .initialized := Cond.initialized_spec (findClass_of_methodNamed hn) hkY h3
  have h : At U g.method c below := by rw [hg]; exact X.here
  have hlocals9 : W9 + (maxL + 11) + (headSpec ws rm).room.locals ≤ R.locals := hlocals
  have happ : (headSpec ws rm).appliesLoose y e.platform (U.calling g mk a) = true :=
    Spec.appliesLoose_calling (g := g) h hdg hn hkY hinitY
      (X.room_calling (g := g) (R' := (headSpec ws rm).room) hsize hmY hcY hframes (by rw [hlY]; omega) h4 h5) h1
  obtain ⟨mid, hmid⟩ := h.above
  have hfr : (U.setTop g).frames = (.java g :: mid) ++ below := by rw [State.frames_setTop' g h.top, hmid]; rfl
  obtain ⟨o, s₂, hsteps, -, hend, hq⟩ := Steps.callFree hM p X.admits X.cas X.clock (acts := []) hfr happ hPc trivial
  have hq' : vx_Q Qc XC mc ms free a (U.calling g mk a) o s₂ := hq
  rw [State.frames_setTop' g h.top] at hend
  obtain ⟨g₀, hg0⟩ := Option.isSome_iff_exists.mp h.top
  obtain ⟨r, hr⟩ := State.topJava?_eq_some.mp hg0
  have hr' : (({ U with heap := s₂.heap, slotsUsed := s₂.slotsUsed } : State).setVm s₂.vm).frames = .java g₀ :: r := hr
  rcases hq' with ⟨hqc, L, hfe, hL⟩ | ⟨q, rfl, E, ce, L, hx, hce, hcv, hcl, hW₂, hsm, hL⟩
  · obtain ⟨⟨v, rfl⟩, hW₂, e2, q2, q3, q4, q5, q6⟩ := id hfe
    have e3 : s₂ = ({ (U.calling g mk a).setFrames s₂.frames with heap := s₂.heap, slotsUsed := s₂.slotsUsed } : State).setVm s₂.vm := by
      have : s₂ = ({ s₂ with vm := (U.calling g mk a).vm } : State).setVm s₂.vm := rfl
      rw [e2] at this
      exact this
    obtain ⟨c₂, i₂, len₂, hc₂, hd₂, hf₂⟩ := hend
    have hW' : U.WarmedH s₂.vm := hW₂
    have hcc : c₂ = c := by
      have h1 : s₂.code? g.method = U.code? g.method := by
        rw [State.code?_eq, State.code?_eq, hW'.alike.method?]
      exact Option.some.inj (hc₂.symm.trans (h1.trans h.code))
    subst hcc
    have hlen : len₂ = len := by rw [hdg] at hd₂; cases hd₂; rfl
    subst hlen
    have hs₂ : s₂ = (({ U with heap := s₂.heap, slotsUsed := s₂.slotsUsed } : State).setVm s₂.vm).setTop { g with pc := g.pc + len₂, stack := v.toList ++ g.stack } := by
      refine e3.trans ?_
      rw [hf₂, State.calling_eq h.top, State.setFrames_setFrames, State.setTop_of_frames _ hr', hr]
      rfl
    have hsame : U.sameButNew ({ U with heap := s₂.heap, slotsUsed := s₂.slotsUsed } : State) L mc ms := by
      refine ⟨?_, q2, q3, q4, q5, q6⟩
      obtain ⟨t, ht, -⟩ := State.frames_cons hr
      show ({ U with heap := s₂.heap, slotsUsed := s₂.slotsUsed } : State) = { U.setFrames U.frames with heap := s₂.heap, slotsUsed := s₂.slotsUsed }
      rw [State.setFrames_self ht]
    subst hg
    refine Or.inl ⟨v, ⟨(({ U with heap := s₂.heap, slotsUsed := s₂.slotsUsed } : State).setVm s₂.vm), Ls ++ L, c0 + mc, s0 + ms⟩,
      ⟨X.admits, X.cas, X.clock, X.frames, X.room, X.hears, X.method, X.code, (X.here.setHeapUsed s₂.heap s₂.slotsUsed).setVm hW'.alike, X.tail, State.WarmedH.trans X.warmed hW', X.limits, X.bytes, X.same.trans (hsame.setVm s.vm)⟩,
      ⟨g, mk, s₂, L, rfl, rfl, hqc, rfl, hL, rfl, rfl⟩, ?_⟩
    show Steps p.tables e below _ ((({ U with heap := s₂.heap, slotsUsed := s₂.slotsUsed } : State).setVm s₂.vm).setTop { g with pc := g.pc + len₂, stack := v.toList ++ g.stack })
    rw [← hs₂]
    exact hsteps
  · obtain ⟨e2, q2, q3, q4, q5, q6⟩ := id hsm
    have e3 : s₂ = ({ (U.calling g mk a).setFrames s₂.frames with heap := s₂.heap, slotsUsed := s₂.slotsUsed } : State).setVm s₂.vm := by
      have : s₂ = ({ s₂ with vm := (U.calling g mk a).vm } : State).setVm s₂.vm := rfl
      rw [e2] at this
      exact this
    have hf₂ : s₂.frames = .throwing q :: .java g :: U.frames.tail := hend
    have hW' : U.WarmedH s₂.vm := hW₂
    have hs₂ : s₂ = ((({ U with heap := s₂.heap, slotsUsed := s₂.slotsUsed } : State).setVm s₂.vm).setTop g).pushFrame (.throwing q) := by
      refine e3.trans ?_
      rw [hf₂, State.calling_eq h.top, State.setFrames_setFrames, State.pushFrame, State.frames_setTop _ hr', State.setTop_of_frames _ hr', State.setFrames_setFrames, hr]
      rfl
    have hsame : U.sameButNew ({ U with heap := s₂.heap, slotsUsed := s₂.slotsUsed } : State) L mc ms := by
      refine ⟨?_, q2, q3, q4, q5, q6⟩
      obtain ⟨t, ht, -⟩ := State.frames_cons hr
      show ({ U with heap := s₂.heap, slotsUsed := s₂.slotsUsed } : State) = { U.setFrames U.frames with heap := s₂.heap, slotsUsed := s₂.slotsUsed }
      rw [State.setFrames_self ht]
    subst hg
    refine Or.inr ⟨q, ⟨(({ U with heap := s₂.heap, slotsUsed := s₂.slotsUsed } : State).setVm s₂.vm), Ls ++ L, c0 + mc, s0 + ms⟩,
      ⟨X.admits, X.cas, X.clock, X.frames, X.room, X.hears, X.method, X.code, (X.here.setHeapUsed s₂.heap s₂.slotsUsed).setVm hW'.alike, X.tail, State.WarmedH.trans X.warmed hW', X.limits, X.bytes, X.same.trans (hsame.setVm s.vm)⟩,
      ⟨g, mk, s₂, L, E, ce, rfl, rfl, hx, hce, hcv, hcl, rfl, hL, rfl, rfl⟩, ?_⟩
    show Steps p.tables e below _ (((({ U with heap := s₂.heap, slotsUsed := s₂.slotsUsed } : State).setVm s₂.vm).setTop g).pushFrame (.throwing q))
    rw [← hs₂]
    exact hsteps
end Payer
section Calls
variable {p : Program} {l : Launch} {e : Env} {R : Room} {s : State} {m : MethodId} {args : Array Value} {below : List Frame} {meth : Method} {c : Code} {T : State} {locs : List Loc} {cells slots : Nat}
theorem vx_callV (X : Stand p l e R s m args below meth c T locs cells slots) (hexec : p.tables.exec = Jvm.exec) {own C : String} {index : Nat} {y : MethodName} {bytes : ByteArray} {maxL : Nat} {ret : Option FieldType}
    (hown : s.vm.findClass own = some m.cls) (hlink : (Cond.methodLink own index y).before args s = true) (hinst : (Cond.instanceMethod y).before args s = true) (hsel : (Cond.selects C y y).before args s = true)
    (hcode : (Cond.code y bytes maxL ret).before args s = true) (hy : y.cls ≠ "java/lang/invoke/MethodHandle" ∧ y.cls ≠ "java/lang/invoke/VarHandle")
    {W9 : Nat} {Pre : Pt → Array Value → Prop} {Post : Pt → Array Value → Option Value → Pt → Prop} {PostX : Pt → Array Value → Addr → Pt → Prop} (hK : vx_Back l R p e below s args y 3 W9 Pre Post PostX)
    {b : Addr} {cellB : Cell} (hcell : T.heap[b]? = some cellB) (hobj : cellB.vm.isStatics = false) (hcls : s.vm.findClass C = some cellB.cls)
    {g : JFrame} (hg : g.method = m) (hsize : g.locals.size = c.maxLocals) {argsL rest : List Value} (hlen : ∀ sig, parseMethodDescriptor y.desc = some sig → argsL.length = sig.parameters.length)
    (hstack : g.stack = argsL.reverse ++ .ref b :: rest) (hW : 2 * g.monitorRoom + (rest.map fun v => v.category).sum ≤ W9) (hdg : decode c.code g.pc = .ok (.invokevirtual index, 3))
    (hpre : ∀ vm₁, s.WarmedH vm₁ → Pre ⟨T.setVm vm₁, locs, cells, slots⟩ (Value.ref b :: argsL).toArray) :
    (∃ (v : Option Value) (vm₁ : Vm) (B : Pt), s.WarmedH vm₁ ∧ Stand p l e R s m args below meth c B.U B.locs B.cells B.slots ∧ Post ⟨T.setVm vm₁, locs, cells, slots⟩ (Value.ref b :: argsL).toArray v B ∧
      ∀ target, Steps p.tables e below (B.U.setTop { g with pc := g.pc + 3, stack := v.toList ++ rest }) target → Steps p.tables e below (T.setTop g) target) ∨
    (∃ (q : Addr) (vm₁ : Vm) (B : Pt), s.WarmedH vm₁ ∧ Stand p l e R s m args below meth c B.U B.locs B.cells B.slots ∧ PostX ⟨T.setVm vm₁, locs, cells, slots⟩ (Value.ref b :: argsL).toArray q B ∧
      Steps p.tables e below (T.setTop g) ((B.U.setTop { g with stack := rest }).pushFrame (.throwing q))) := by
  obtain ⟨mk, methM, hnamed, hmethM, hstM, habM⟩ := Cond.instanceMethod_spec hinst
  obtain ⟨methM', cM, hmethM', -, -, -, -, -, -, hsigM⟩ := Cond.code_spec hnamed hcode
  cases hmethM.symm.trans hmethM'
  obtain ⟨c2, r2, m2, q1, q2, q3, q4, kP, hkP, hkPi⟩ := Cond.selects_spec hsel
  cases hcls.symm.trans q1
  cases (State.methodFound?_of_named hnamed hy).symm.trans q2
  cases hnamed.symm.trans q3
  have hselP : selectMethod e.platform s.vm cellB.cls mk = .method mk := by rw [Launch.admits_selectMethod X.admits]; exact q4
  obtain ⟨vm₁, X₁, hstep₁⟩ := X.invokevirtual hexec hown hlink hnamed hmethM hstM hkP hkPi hy (a := b) (cell := cellB) hcell
    (fun z h => by rw [h] at hobj; cases hobj) hselP hmethM habM hkP hkPi (g := g) hg (argsL := argsL) (rest := rest) (hlen _ hsigM) hstack hdg
  rcases hK m meth c ⟨T.setVm vm₁, locs, cells, slots⟩ { g with stack := rest } (.invokevirtual index) mk (Value.ref b :: argsL).toArray X₁ hg hsize hdg hW (X₁.named hnamed) (hpre vm₁ X₁.warmed) with ⟨v, B, X', hpost, hsteps⟩ | ⟨q, B, X', hpost, hsteps⟩
  · exact Or.inl ⟨v, vm₁, B, X₁.warmed, X', hpost, fun target h => hstep₁ _ fun acts => by rw [doInvoke_state]; exact hsteps.trans h⟩
  · exact Or.inr ⟨q, vm₁, B, X₁.warmed, X', hpost, hstep₁ _ fun acts => by rw [doInvoke_state]; exact hsteps⟩
theorem vx_callS (X : Stand p l e R s m args below meth c T locs cells slots) (hexec : p.tables.exec = Jvm.exec) {own : String} {index : Nat} {y : MethodName} {bytes : ByteArray} {maxL : Nat} {ret : Option FieldType}
    (hown : s.vm.findClass own = some m.cls) (hlink : (Cond.methodLink own index y).before args s = true) (hstat : (Cond.static y).before args s = true) (hinit : (Cond.initialized y.cls).before args s = true)
    (hcode : (Cond.code y bytes maxL ret).before args s = true) (hy : y.cls ≠ "java/lang/invoke/MethodHandle" ∧ y.cls ≠ "java/lang/invoke/VarHandle")
    {W9 : Nat} {Pre : Pt → Array Value → Prop} {Post : Pt → Array Value → Option Value → Pt → Prop} {PostX : Pt → Array Value → Addr → Pt → Prop} (hK : vx_Back l R p e below s args y 3 W9 Pre Post PostX)
    {g : JFrame} (hg : g.method = m) (hsize : g.locals.size = c.maxLocals) {argsL rest : List Value} (hlen : ∀ sig, parseMethodDescriptor y.desc = some sig → argsL.length = sig.parameters.length)
    (hstack : g.stack = argsL.reverse ++ rest) (hW : 2 * g.monitorRoom + (rest.map fun v => v.category).sum ≤ W9) (hdg : decode c.code g.pc = .ok (.invokestatic index, 3))
    (hpre : ∀ vm₁, s.WarmedH vm₁ → Pre ⟨T.setVm vm₁, locs, cells, slots⟩ argsL.toArray) :
    (∃ (v : Option Value) (vm₁ : Vm) (B : Pt), s.WarmedH vm₁ ∧ Stand p l e R s m args below meth c B.U B.locs B.cells B.slots ∧ Post ⟨T.setVm vm₁, locs, cells, slots⟩ argsL.toArray v B ∧
      ∀ target, Steps p.tables e below (B.U.setTop { g with pc := g.pc + 3, stack := v.toList ++ rest }) target → Steps p.tables e below (T.setTop g) target) ∨
    (∃ (q : Addr) (vm₁ : Vm) (B : Pt), s.WarmedH vm₁ ∧ Stand p l e R s m args below meth c B.U B.locs B.cells B.slots ∧ PostX ⟨T.setVm vm₁, locs, cells, slots⟩ argsL.toArray q B ∧
      Steps p.tables e below (T.setTop g) ((B.U.setTop { g with stack := rest }).pushFrame (.throwing q))) := by
  obtain ⟨mk, hnamed⟩ := Cond.code_named hcode
  obtain ⟨methM, cM, hmethM, -, -, -, -, -, -, hsigM⟩ := Cond.code_spec hnamed hcode
  have hstatic : methM.isStatic = true := Cond.static_spec hnamed hmethM hstat
  obtain ⟨kP, hkP, -⟩ := className_of_methodNamed hnamed
  have hinitP : kP.init = .initialized := Cond.initialized_spec (findClass_of_methodNamed hnamed) hkP hinit
  obtain ⟨vm₁, X₁, hstep₁⟩ := X.invokestatic hexec hown hlink hnamed hmethM hstatic hkP hinitP hy (g := g) hg (argsL := argsL) (rest := rest) (hlen _ hsigM) hstack hdg
  rcases hK m meth c ⟨T.setVm vm₁, locs, cells, slots⟩ { g with stack := rest } (.invokestatic index) mk argsL.toArray X₁ hg hsize hdg hW (X₁.named hnamed) (hpre vm₁ X₁.warmed) with ⟨v, B, X', hpost, hsteps⟩ | ⟨q, B, X', hpost, hsteps⟩
  · exact Or.inl ⟨v, vm₁, B, X₁.warmed, X', hpost, fun target h => hstep₁ _ fun acts => by rw [doInvoke_state]; exact hsteps.trans h⟩
  · exact Or.inr ⟨q, vm₁, B, X₁.warmed, X', hpost, hstep₁ _ fun acts => by rw [doInvoke_state]; exact hsteps⟩
end Calls
theorem vx_cls {s : State} {T : State} {vm₁ : Vm} {E : String} {k : ClassId} (hW : s.WarmedH vm₁) (h : (T.setVm vm₁).vm.findClass E = some k) : s.vm.findClass E = some k := by
  have h1 : vm₁.findClass E = some k := h
  rw [hW.alike.findClass] at h1
  exact h1
/-- the method's frame g, with q thrown over it -/
def vx_W (p : Program) (l : Launch) (e : Env) (R : Room) (s : State) (m : MethodId) (args : Array Value) (below : List Frame) (meth : Method) (c : Code) (H : Heap) (locs : List Loc) (cells slots : Nat) (Q : State → Prop) (g : JFrame) (q : Addr) : Prop :=
  ∀ T : State, T.heap = H → Stand p l e R s m args below meth c T locs cells slots → ∃ t, Steps p.tables e below ((T.setTop g).pushFrame (.throwing q)) t ∧ Q t
def vx_Run (p : Program) (l : Launch) (e : Env) (R : Room) (s : State) (m : MethodId) (args : Array Value) (below : List Frame) (meth : Method) (c : Code) (H : Heap) (locs : List Loc) (cells slots mc ms : Nat) (g : JFrame) (rest : List Value) (Qa : State → Outcome → State → Prop) (XC : String → State → State → Prop) (free : Addr → Prop) : Prop :=
  ∀ T : State, T.heap = H → Stand p l e R s m args below meth c T locs cells slots →
    (∃ (v : Option Value) (st₀ t T' : State) (L : List Loc), st₀.heap = H ∧ Stand p l e R s m args below meth c T' (locs ++ L) (cells + mc) (slots + ms) ∧ (∀ q ∈ L, free q.base) ∧ T'.heap = t.heap ∧ T'.vm = t.vm ∧ Qa st₀ (.returned v) t ∧
      Goes p e below T g T' { g with pc := g.pc + 3, stack := v.toList ++ rest }) ∨
    (∃ (q : Addr) (st₀ t T' : State) (L : List Loc) (E : String) (ce : Cell), st₀.heap = H ∧ Stand p l e R s m args below meth c T' (locs ++ L) (cells + mc) (slots + ms) ∧ (∀ z ∈ L, free z.base) ∧ T'.heap = t.heap ∧ T'.vm = t.vm ∧ XC E st₀ t ∧ t.heap[q]? = some ce ∧ ce.vm = .none ∧ s.vm.findClass E = some ce.cls ∧
      Steps p.tables e below (T.setTop g) ((T'.setTop { g with stack := rest }).pushFrame (.throwing q)))
def vx_X {S : Type} (px : S → Prop) (B : String → S → State → Prop) (A : Nat → Prop) : String → State → State → Prop := fun E st t => ∃ u : S, px u ∧ B E u t ∧ va_F A st t
section Runs
variable {p : Program} {l : Launch} {e : Env} {R : Room} {s : State} {m : MethodId} {args : Array Value} {below : List Frame} {meth : Method} {c : Code} {H : Heap} {locs : List Loc} {cells slots : Nat}
variable {y : MethodName} {bytes cc : ByteArray} {maxL nL mc ms n index : Nat} {ret : Option FieldType} {ws : List Cond} {rm : Room} {Pc : Array Value → State → Prop} {Qc : Array Value → State → Outcome → State → Prop} {XC : String → State → State → Prop} {free : Addr → Prop} {Ts : List Cond} {own C : String} {b : Addr} {As rest : List Value} {g : JFrame}
theorem vx_callBack (cb : CallB R s args own index y bytes maxL ret ws rm mc ms n) (hM : vx_Met l y ws rm Pc Qc XC mc ms free) (hbl : FrameBlind Pc) : vx_Back l R p e below s args y 3 8 (PreOf R mc ms Pc) (PostOf Qc mc ms free) (vx_Post XC mc ms free) := by
  obtain ⟨hrc, hrs, hfr, hlo, hws, hcw, -, hini, -⟩ := cb
  exact vx_back (bytes := bytes) (maxL := maxL) (ret := ret) hM hbl hrc hrs hfr hlo hws hcw (fun a' U hW => word_at hW (Or.inl (by first | rfl | simp [Cond.onTables, Cond.keeps, Cond.steady])) hini)
theorem vx_runV (S : CallFix p m c cc nL s args Ts own) (hM : vx_Met l y ws rm Pc Qc XC mc ms free) (cw : CallW R s args own C index y bytes maxL ret ws rm mc ms n) (hp : PreV s H C b Pc As)
    (hg : g.method = m) (hn : As.length = n) (hsize : g.locals.size = nL) (hstack : g.stack = As.reverse ++ .ref b :: rest) (hW : 2 * g.monitorRoom + (rest.map fun v => v.category).sum ≤ 8) (hdg : decode cc g.pc = .ok (.invokevirtual index, 3)) (hf : cells + mc ≤ R.cells ∧ slots + ms ≤ R.slots) :
    vx_Run p l e R s m args below meth c H locs cells slots mc ms g rest (Qc (Value.ref b :: As).toArray) XC free := by
  have hK : vx_Back l R p e below s args y 3 8 (PreOf R mc ms Pc) (PostOf Qc mc ms free) (vx_Post XC mc ms free) := vx_callBack cw.1 hM hp.1
  obtain ⟨⟨-, -, -, -, -, -, hcode, -, hy, hlen, hl⟩, hin, hse⟩ := cw
  obtain ⟨hx, hb, hml, ho, -⟩ := S
  obtain ⟨-, ⟨cellB, hcB, hoB, hclB⟩, hPc⟩ := hp
  intro T hT X
  rcases vx_callV X hx (C := C) (bytes := bytes) (maxL := maxL) (ret := ret) ho hl hin hse hcode hy hK (by rw [hT]; exact hcB) hoB hclB hg (hsize.trans hml.symm) (argsL := As) (rest := rest) (fun sig h => hn.trans (hlen sig h)) hstack hW (by rw [hb]; exact hdg)
    (fun vm₁ hW₁ => ⟨hf.1, hf.2, hPc (T.setVm vm₁) hT hW₁⟩) with ⟨v, vm₁, ⟨U', l2, c2, s2⟩, hW₁, X', ⟨g', mk, t, L, e1, e2, hq, h1, hL, h2, h3⟩, st⟩ | ⟨q, vm₁, ⟨U', l2, c2, s2⟩, hW₁, X', ⟨g', mk, t, L, E, ce, e1, e2, hq, hce, hcv, hcl, h1, hL, h2, h3⟩, st⟩
  · dsimp only [Pt.U, Pt.locs, Pt.cells, Pt.slots] at X' e1 e2 h1 h2 h3 st
    subst h1; subst h2; subst h3
    exact Or.inl ⟨v, (T.setVm vm₁).calling g' mk (Value.ref b :: As).toArray, t, U', L, hT, X', hL, e1, e2, hq, st⟩
  · dsimp only [Pt.U, Pt.locs, Pt.cells, Pt.slots] at X' e1 e2 h1 h2 h3 st hcl
    subst h1; subst h2; subst h3
    exact Or.inr ⟨q, (T.setVm vm₁).calling g' mk (Value.ref b :: As).toArray, t, U', L, E, ce, hT, X', hL, e1, e2, hq, hce, hcv, vx_cls hW₁ hcl, st⟩
theorem vx_runS (S : CallFix p m c cc nL s args Ts own) (hM : vx_Met l y ws rm Pc Qc XC mc ms free) (cw : CallB R s args own index y bytes maxL ret ws rm mc ms n ∧ (Cond.static y).before args s = true) (hp : PreS s H Pc As)
    (hg : g.method = m) (hn : As.length = n) (hsize : g.locals.size = nL) (hstack : g.stack = As.reverse ++ rest) (hW : 2 * g.monitorRoom + (rest.map fun v => v.category).sum ≤ 8) (hdg : decode cc g.pc = .ok (.invokestatic index, 3)) (hf : cells + mc ≤ R.cells ∧ slots + ms ≤ R.slots) :
    vx_Run p l e R s m args below meth c H locs cells slots mc ms g rest (Qc As.toArray) XC free := by
  have hK : vx_Back l R p e below s args y 3 8 (PreOf R mc ms Pc) (PostOf Qc mc ms free) (vx_Post XC mc ms free) := vx_callBack cw.1 hM hp.1
  obtain ⟨⟨-, -, -, -, -, -, hcode, hini, hy, hlen, hl⟩, hstt⟩ := cw
  obtain ⟨hx, hb, hml, ho, -⟩ := S
  intro T hT X
  rcases vx_callS X hx (bytes := bytes) (maxL := maxL) (ret := ret) ho hl hstt hini hcode hy hK hg (hsize.trans hml.symm) (argsL := As) (rest := rest) (fun sig h => hn.trans (hlen sig h)) hstack hW (by rw [hb]; exact hdg)
    (fun vm₁ hW₁ => ⟨hf.1, hf.2, hp.2 (T.setVm vm₁) hT hW₁⟩) with ⟨v, vm₁, ⟨U', l2, c2, s2⟩, hW₁, X', ⟨g', mk, t, L, e1, e2, hq, h1, hL, h2, h3⟩, st⟩ | ⟨q, vm₁, ⟨U', l2, c2, s2⟩, hW₁, X', ⟨g', mk, t, L, E, ce, e1, e2, hq, hce, hcv, hcl, h1, hL, h2, h3⟩, st⟩
  · dsimp only [Pt.U, Pt.locs, Pt.cells, Pt.slots] at X' e1 e2 h1 h2 h3 st
    subst h1; subst h2; subst h3
    exact Or.inl ⟨v, (T.setVm vm₁).calling g' mk As.toArray, t, U', L, hT, X', hL, e1, e2, hq, st⟩
  · dsimp only [Pt.U, Pt.locs, Pt.cells, Pt.slots] at X' e1 e2 h1 h2 h3 st hcl
    subst h1; subst h2; subst h3
    exact Or.inr ⟨q, (T.setVm vm₁).calling g' mk As.toArray, t, U', L, E, ce, hT, X', hL, e1, e2, hq, hce, hcv, vx_cls hW₁ hcl, st⟩
end Runs
section Rows
variable {p : Program} {l : Launch} {e : Env} {R : Room} {s : State} {m : MethodId} {args : Array Value} {below : List Frame} {meth : Method} {c : Code} {H : Heap} {locs : List Loc} {cells slots : Nat} {Q : State → Prop}
variable {mc ms : Nat} {free : Addr → Prop} {A0 A1 : Nat → Prop} {H0 : Heap} {a : Array Value} {pc : Nat} {ls : Array Slot} {st0 rest : List Value}
theorem vx_keep {st₀ t T' : State} {L : List Loc} (h0 : st₀.heap = H) (e1 : T'.heap = t.heap) (hS : va_S A0 H0 H locs) (hA : ∀ q, q < H.size → A1 q → A0 q) (hf : ∀ q, free q → A0 q) (hL : ∀ q ∈ L, free q.base) (hF : va_F A1 st₀ t) :
    H.size ≤ T'.heap.size ∧ (∀ q : Nat, q < H.size → ¬ A1 q → T'.heap[q]? = H[q]?) ∧ va_S A0 H0 T'.heap (locs ++ L) := by
  obtain ⟨hz, hk⟩ := hF
  rw [h0] at hz hk
  exact ⟨by rw [e1]; exact hz, fun q h1 h2 => by rw [e1]; exact hk q h1 h2,
    ⟨Nat.le_trans hS.1 (by rw [e1]; exact hz), fun q h1 h2 => by rw [e1, hk q (Nat.lt_of_lt_of_le h1 hS.1) (fun z => h2 (hA q (Nat.lt_of_lt_of_le h1 hS.1) z))]; exact hS.2.1 q h1 h2, fun q hq => by
      rcases List.mem_append.mp hq with h | h
      · exact hS.2.2 q h
      · exact hf _ (hL q h)⟩⟩
theorem vx_calli {S SX : Type} {post : Int32 → S → Prop} {px : SX → Prop} {B : S → State → Prop} {BX : String → SX → State → Prop} {AX : Nat → Prop} (hr : vx_Run p l e R s m args below meth c H locs cells slots mc ms (F0 m pc ls st0) rest (va_Qi post B A1 a) (vx_X px BX AX) free) (hS : va_S A0 H0 H locs) (hA : ∀ q, q < H.size → A1 q → A0 q) (hf : ∀ q, free q → A0 q) (hAX : ∀ q, q < H.size → AX q → A0 q)
    (kx : ∀ (E : String) (ce : Cell) (q9 : Addr) (u : SX) (t : State) (H1 : Heap) (locs1 : List Loc), t.heap = H1 → s.vm.Alike t.vm → px u → BX E u t → H.size ≤ H1.size → (∀ q : Nat, q < H.size → ¬ AX q → H1[q]? = H[q]?) → va_S A0 H0 H1 locs1 → H1[q9]? = some ce → ce.vm = .none → s.vm.findClass E = some ce.cls → vx_W p l e R s m args below meth c H1 locs1 (cells + mc) (slots + ms) Q (F0 m pc ls rest) q9)
    (kk : ∀ (r : Int32) (u : S) (t : State) (H1 : Heap) (locs1 : List Loc), t.heap = H1 → s.vm.Alike t.vm → post r u → B u t → H.size ≤ H1.size → (∀ q : Nat, q < H.size → ¬ A1 q → H1[q]? = H[q]?) → va_S A0 H0 H1 locs1 → W p l e R s m args below meth c H1 locs1 (cells + mc) (slots + ms) Q (F0 m (pc + 3) ls (.int r :: rest))) : W p l e R s m args below meth c H locs cells slots Q (F0 m pc ls st0) := by
  intro T hT X
  rcases hr T hT X with ⟨v, st₀, t, T', L, h0, X', hL, e1, e2, ⟨⟨r, u, hv, hp, hb⟩, hF⟩, st⟩ | ⟨q, st₀, t, T', L, E, ce, h0, X', hL, e1, e2, ⟨u, hp, hb, hF⟩, hce, hcv, hcl, st⟩
  · cases hv
    obtain ⟨k1, k2, k3⟩ := vx_keep h0 e1 hS hA hf hL hF
    obtain ⟨t2, a1, b1⟩ := kk r u t T'.heap (locs ++ L) e1.symm (by rw [← e2]; exact X'.warmed.alike) hp hb k1 k2 k3 T' rfl X'
    exact ⟨t2, st t2 a1, b1⟩
  · obtain ⟨k1, k2, k3⟩ := vx_keep h0 e1 hS hAX hf hL hF
    obtain ⟨t2, a1, b1⟩ := kx E ce q u t T'.heap (locs ++ L) e1.symm (by rw [← e2]; exact X'.warmed.alike) hp hb k1 k2 k3 (by rw [e1]; exact hce) hcv hcl T' rfl X'
    exact ⟨t2, st.trans a1, b1⟩
theorem vx_calll {S SX : Type} {post : Int64 → S → Prop} {px : SX → Prop} {B : S → State → Prop} {BX : String → SX → State → Prop} {AX : Nat → Prop} (hr : vx_Run p l e R s m args below meth c H locs cells slots mc ms (F0 m pc ls st0) rest (va_Ql post B A1 a) (vx_X px BX AX) free) (hS : va_S A0 H0 H locs) (hA : ∀ q, q < H.size → A1 q → A0 q) (hf : ∀ q, free q → A0 q) (hAX : ∀ q, q < H.size → AX q → A0 q)
    (kx : ∀ (E : String) (ce : Cell) (q9 : Addr) (u : SX) (t : State) (H1 : Heap) (locs1 : List Loc), t.heap = H1 → s.vm.Alike t.vm → px u → BX E u t → H.size ≤ H1.size → (∀ q : Nat, q < H.size → ¬ AX q → H1[q]? = H[q]?) → va_S A0 H0 H1 locs1 → H1[q9]? = some ce → ce.vm = .none → s.vm.findClass E = some ce.cls → vx_W p l e R s m args below meth c H1 locs1 (cells + mc) (slots + ms) Q (F0 m pc ls rest) q9)
    (kk : ∀ (r : Int64) (u : S) (t : State) (H1 : Heap) (locs1 : List Loc), t.heap = H1 → s.vm.Alike t.vm → post r u → B u t → H.size ≤ H1.size → (∀ q : Nat, q < H.size → ¬ A1 q → H1[q]? = H[q]?) → va_S A0 H0 H1 locs1 → W p l e R s m args below meth c H1 locs1 (cells + mc) (slots + ms) Q (F0 m (pc + 3) ls (.long r :: rest))) : W p l e R s m args below meth c H locs cells slots Q (F0 m pc ls st0) := by
  intro T hT X
  rcases hr T hT X with ⟨v, st₀, t, T', L, h0, X', hL, e1, e2, ⟨⟨r, u, hv, hp, hb⟩, hF⟩, st⟩ | ⟨q, st₀, t, T', L, E, ce, h0, X', hL, e1, e2, ⟨u, hp, hb, hF⟩, hce, hcv, hcl, st⟩
  · cases hv
    obtain ⟨k1, k2, k3⟩ := vx_keep h0 e1 hS hA hf hL hF
    obtain ⟨t2, a1, b1⟩ := kk r u t T'.heap (locs ++ L) e1.symm (by rw [← e2]; exact X'.warmed.alike) hp hb k1 k2 k3 T' rfl X'
    exact ⟨t2, st t2 a1, b1⟩
  · obtain ⟨k1, k2, k3⟩ := vx_keep h0 e1 hS hAX hf hL hF
    obtain ⟨t2, a1, b1⟩ := kx E ce q u t T'.heap (locs ++ L) e1.symm (by rw [← e2]; exact X'.warmed.alike) hp hb k1 k2 k3 (by rw [e1]; exact hce) hcv hcl T' rfl X'
    exact ⟨t2, st.trans a1, b1⟩
theorem vx_callf {S SX : Type} {post : UInt32 → S → Prop} {px : SX → Prop} {B : S → State → Prop} {BX : String → SX → State → Prop} {AX : Nat → Prop} (hr : vx_Run p l e R s m args below meth c H locs cells slots mc ms (F0 m pc ls st0) rest (va_Qf post B A1 a) (vx_X px BX AX) free) (hS : va_S A0 H0 H locs) (hA : ∀ q, q < H.size → A1 q → A0 q) (hf : ∀ q, free q → A0 q) (hAX : ∀ q, q < H.size → AX q → A0 q)
    (kx : ∀ (E : String) (ce : Cell) (q9 : Addr) (u : SX) (t : State) (H1 : Heap) (locs1 : List Loc), t.heap = H1 → s.vm.Alike t.vm → px u → BX E u t → H.size ≤ H1.size → (∀ q : Nat, q < H.size → ¬ AX q → H1[q]? = H[q]?) → va_S A0 H0 H1 locs1 → H1[q9]? = some ce → ce.vm = .none → s.vm.findClass E = some ce.cls → vx_W p l e R s m args below meth c H1 locs1 (cells + mc) (slots + ms) Q (F0 m pc ls rest) q9)
    (kk : ∀ (r : UInt32) (u : S) (t : State) (H1 : Heap) (locs1 : List Loc), t.heap = H1 → s.vm.Alike t.vm → post r u → B u t → H.size ≤ H1.size → (∀ q : Nat, q < H.size → ¬ A1 q → H1[q]? = H[q]?) → va_S A0 H0 H1 locs1 → W p l e R s m args below meth c H1 locs1 (cells + mc) (slots + ms) Q (F0 m (pc + 3) ls (.float r :: rest))) : W p l e R s m args below meth c H locs cells slots Q (F0 m pc ls st0) := by
  intro T hT X
  rcases hr T hT X with ⟨v, st₀, t, T', L, h0, X', hL, e1, e2, ⟨⟨r, u, hv, hp, hb⟩, hF⟩, st⟩ | ⟨q, st₀, t, T', L, E, ce, h0, X', hL, e1, e2, ⟨u, hp, hb, hF⟩, hce, hcv, hcl, st⟩
  · cases hv
    obtain ⟨k1, k2, k3⟩ := vx_keep h0 e1 hS hA hf hL hF
    obtain ⟨t2, a1, b1⟩ := kk r u t T'.heap (locs ++ L) e1.symm (by rw [← e2]; exact X'.warmed.alike) hp hb k1 k2 k3 T' rfl X'
    exact ⟨t2, st t2 a1, b1⟩
  · obtain ⟨k1, k2, k3⟩ := vx_keep h0 e1 hS hAX hf hL hF
    obtain ⟨t2, a1, b1⟩ := kx E ce q u t T'.heap (locs ++ L) e1.symm (by rw [← e2]; exact X'.warmed.alike) hp hb k1 k2 k3 (by rw [e1]; exact hce) hcv hcl T' rfl X'
    exact ⟨t2, st.trans a1, b1⟩
theorem vx_calld {S SX : Type} {post : UInt64 → S → Prop} {px : SX → Prop} {B : S → State → Prop} {BX : String → SX → State → Prop} {AX : Nat → Prop} (hr : vx_Run p l e R s m args below meth c H locs cells slots mc ms (F0 m pc ls st0) rest (va_Qd post B A1 a) (vx_X px BX AX) free) (hS : va_S A0 H0 H locs) (hA : ∀ q, q < H.size → A1 q → A0 q) (hf : ∀ q, free q → A0 q) (hAX : ∀ q, q < H.size → AX q → A0 q)
    (kx : ∀ (E : String) (ce : Cell) (q9 : Addr) (u : SX) (t : State) (H1 : Heap) (locs1 : List Loc), t.heap = H1 → s.vm.Alike t.vm → px u → BX E u t → H.size ≤ H1.size → (∀ q : Nat, q < H.size → ¬ AX q → H1[q]? = H[q]?) → va_S A0 H0 H1 locs1 → H1[q9]? = some ce → ce.vm = .none → s.vm.findClass E = some ce.cls → vx_W p l e R s m args below meth c H1 locs1 (cells + mc) (slots + ms) Q (F0 m pc ls rest) q9)
    (kk : ∀ (r : UInt64) (u : S) (t : State) (H1 : Heap) (locs1 : List Loc), t.heap = H1 → s.vm.Alike t.vm → post r u → B u t → H.size ≤ H1.size → (∀ q : Nat, q < H.size → ¬ A1 q → H1[q]? = H[q]?) → va_S A0 H0 H1 locs1 → W p l e R s m args below meth c H1 locs1 (cells + mc) (slots + ms) Q (F0 m (pc + 3) ls (.double r :: rest))) : W p l e R s m args below meth c H locs cells slots Q (F0 m pc ls st0) := by
  intro T hT X
  rcases hr T hT X with ⟨v, st₀, t, T', L, h0, X', hL, e1, e2, ⟨⟨r, u, hv, hp, hb⟩, hF⟩, st⟩ | ⟨q, st₀, t, T', L, E, ce, h0, X', hL, e1, e2, ⟨u, hp, hb, hF⟩, hce, hcv, hcl, st⟩
  · cases hv
    obtain ⟨k1, k2, k3⟩ := vx_keep h0 e1 hS hA hf hL hF
    obtain ⟨t2, a1, b1⟩ := kk r u t T'.heap (locs ++ L) e1.symm (by rw [← e2]; exact X'.warmed.alike) hp hb k1 k2 k3 T' rfl X'
    exact ⟨t2, st t2 a1, b1⟩
  · obtain ⟨k1, k2, k3⟩ := vx_keep h0 e1 hS hAX hf hL hF
    obtain ⟨t2, a1, b1⟩ := kx E ce q u t T'.heap (locs ++ L) e1.symm (by rw [← e2]; exact X'.warmed.alike) hp hb k1 k2 k3 (by rw [e1]; exact hce) hcv hcl T' rfl X'
    exact ⟨t2, st.trans a1, b1⟩
theorem vx_callv {S SX : Type} {post : S → Prop} {px : SX → Prop} {B : S → State → Prop} {BX : String → SX → State → Prop} {AX : Nat → Prop} (hr : vx_Run p l e R s m args below meth c H locs cells slots mc ms (F0 m pc ls st0) rest (va_Qv post B A1 a) (vx_X px BX AX) free) (hS : va_S A0 H0 H locs) (hA : ∀ q, q < H.size → A1 q → A0 q) (hf : ∀ q, free q → A0 q) (hAX : ∀ q, q < H.size → AX q → A0 q)
    (kx : ∀ (E : String) (ce : Cell) (q9 : Addr) (u : SX) (t : State) (H1 : Heap) (locs1 : List Loc), t.heap = H1 → s.vm.Alike t.vm → px u → BX E u t → H.size ≤ H1.size → (∀ q : Nat, q < H.size → ¬ AX q → H1[q]? = H[q]?) → va_S A0 H0 H1 locs1 → H1[q9]? = some ce → ce.vm = .none → s.vm.findClass E = some ce.cls → vx_W p l e R s m args below meth c H1 locs1 (cells + mc) (slots + ms) Q (F0 m pc ls rest) q9)
    (kk : ∀ (u : S) (t : State) (H1 : Heap) (locs1 : List Loc), t.heap = H1 → s.vm.Alike t.vm → post u → B u t → H.size ≤ H1.size → (∀ q : Nat, q < H.size → ¬ A1 q → H1[q]? = H[q]?) → va_S A0 H0 H1 locs1 → W p l e R s m args below meth c H1 locs1 (cells + mc) (slots + ms) Q (F0 m (pc + 3) ls (rest))) : W p l e R s m args below meth c H locs cells slots Q (F0 m pc ls st0) := by
  intro T hT X
  rcases hr T hT X with ⟨v, st₀, t, T', L, h0, X', hL, e1, e2, ⟨⟨u, hv, hp, hb⟩, hF⟩, st⟩ | ⟨q, st₀, t, T', L, E, ce, h0, X', hL, e1, e2, ⟨u, hp, hb, hF⟩, hce, hcv, hcl, st⟩
  · cases hv
    obtain ⟨k1, k2, k3⟩ := vx_keep h0 e1 hS hA hf hL hF
    obtain ⟨t2, a1, b1⟩ := kk u t T'.heap (locs ++ L) e1.symm (by rw [← e2]; exact X'.warmed.alike) hp hb k1 k2 k3 T' rfl X'
    exact ⟨t2, st t2 a1, b1⟩
  · obtain ⟨k1, k2, k3⟩ := vx_keep h0 e1 hS hAX hf hL hF
    obtain ⟨t2, a1, b1⟩ := kx E ce q u t T'.heap (locs ++ L) e1.symm (by rw [← e2]; exact X'.warmed.alike) hp hb k1 k2 k3 (by rw [e1]; exact hce) hcv hcl T' rfl X'
    exact ⟨t2, st.trans a1, b1⟩
/-- caught by the row x of this method's table; the rows ahead don't take it -/
theorem vx_catch {own name : String} {E : String} {ce : Cell} {q : Addr} (hown : s.vm.findClass own = some m.cls) (pre : List ExceptionTableEntry) (x : ExceptionTableEntry) (suf : List ExceptionTableEntry) (hsplit : c.exceptionTable.toList = pre ++ x :: suf)
    (hpass : ∀ z ∈ pre, covers z pc = false ∨ (z.catchType ≠ 0 ∧ ∃ nm : String, (Cond.classLink own z.catchType nm).before args s = true ∧ va_Nc E nm s)) (hx : covers x pc = true) (h0 : x.catchType ≠ 0)
    (hlink : (Cond.classLink own x.catchType name).before args s = true) (hcast : (Cond.castable E name).before args s = true) (hcell : H[q]? = some ce) (hv : ce.vm = .none) (hcl : s.vm.findClass E = some ce.cls)
    (kk : W p l e R s m args below meth c H locs cells slots Q (F0 m x.handlerPc ls [.ref q])) : vx_W p l e R s m args below meth c H locs cells slots Q (F0 m pc ls rest) q := by
  intro T hT X
  have hpl : e.platform.magicAccessors = ({} : Platform).magicAccessors := by rw [X.admits.platform]
  obtain ⟨c3, c4, hc3, hc4, hasg⟩ := Cond.castable_spec hcast
  cases Option.some.inj (hc3.symm.trans hcl)
  obtain ⟨c5, hc5, hcl5⟩ := Cond.classLink_spec hown hlink e.platform hpl
  cases Option.some.inj (hc4.symm.trans hc5)
  obtain ⟨vm', X', st⟩ := X.thenCaughtThrough q (g := F0 m pc ls rest) rfl (Steps.refl _) (by rw [hT]; exact hcell) (by rw [hv]; rfl) (by obtain ⟨k9, h9, -⟩ := Vm.findClass_spec hcl; exact ⟨k9, h9⟩) pre x suf hsplit
    (fun z hz => by
      rcases hpass z hz with h | ⟨hz0, nm, hl1, hn1⟩
      · exact Or.inl h
      · obtain ⟨c6, hc6, hcl6⟩ := Cond.classLink_spec hown hl1 e.platform hpl
        obtain ⟨a8, b8, h1, h2, h3⟩ := hn1
        cases Option.some.inj (h1.symm.trans hcl)
        cases Option.some.inj (h2.symm.trans hc6)
        exact Or.inr ⟨hz0, _, hcl6, h3⟩) hx (Or.inr ⟨h0, c4, hcl5, hasg⟩)
  obtain ⟨t, a1, b1⟩ := kk (T.setVm vm') hT X'
  exact ⟨t, st.trans a1, b1⟩
end Rows
section Ends
variable {p : Program} {l : Launch} {e : Env} {R : Room} {s : State} {m : MethodId} {args : Array Value} {below : List Frame} {meth : Method} {c : Code} {H : Heap} {locs : List Loc} {cells slots : Nat} {Q : State → Prop}
variable {mc ms : Nat} {free : Addr → Prop} {A0 A1 : Nat → Prop} {H0 : Heap} {a : Array Value} {ls : Array Slot} {st0 rest : List Value}
variable {Qc : Array Value → State → Outcome → State → Prop} {XC : String → State → State → Prop}
/-- what a body that may throw owes at its end -/
def vx_MQ (below : List Frame) (Qc : Array Value → State → Outcome → State → Prop) (XC : String → State → State → Prop) (a : Array Value) (s : State) (mc ms : Nat) (free : Addr → Prop) : State → Prop := fun t =>
  ∃ o, t.status = .running ∧ Ended t below o ∧ vx_Q Qc XC mc ms free a s o t
theorem vx_ret {g : JFrame} {mc ms : Nat} (k : W p l e R s m args below meth c H locs cells slots (MQ below Qc args s mc ms free) g) : W p l e R s m args below meth c H locs cells slots (vx_MQ below Qc XC args s mc ms free) g := by
  intro T hT X
  obtain ⟨t, a1, o, b1, b2, b3, b4⟩ := k T hT X
  exact ⟨t, a1, o, b1, b2, Or.inl ⟨b3, b4⟩⟩
/-- not caught here: it goes on to the caller -/
theorem vx_widen {g : JFrame} {q : Addr} {k n : Nat} (h1 : cells ≤ k) (h2 : slots ≤ n) (kk : vx_W p l e R s m args below meth c H locs k n Q g q) : vx_W p l e R s m args below meth c H locs cells slots Q g q := fun T hT X => kk T hT (stand_widen X h1 h2)
theorem vx_out {pc : Nat} {E : String} {ce : Cell} {q : Addr} {mc ms : Nat} (hout : ∀ x ∈ c.exceptionTable.toList, covers x pc = false) (hlocks : meth.locks = false) (hcell : H[q]? = some ce) (hv : ce.vm = .none) (hcl : s.vm.findClass E = some ce.cls)
    (hx : ∀ t : State, t.heap = H → s.vm.Alike t.vm → XC E s t) (hf : ∀ z ∈ locs, free z.base) (hc : cells ≤ mc) (hs : slots ≤ ms) :
    vx_W p l e R s m args below meth c H locs cells slots (vx_MQ below Qc XC args s mc ms free) (F0 m pc ls rest) q := by
  intro T hT X
  obtain ⟨st1, hrun, hend, hW, hsm⟩ := X.leaveThrown q (g := F0 m pc ls rest) rfl rfl rfl hout hlocks
  have hcell9 : (T.setFrames (.throwing q :: below)).heap[q]? = some ce := by
    show T.heap[q]? = some ce
    rw [hT]; exact hcell
  exact ⟨_, st1, .threw q, hrun, hend, Or.inr ⟨q, rfl, E, ce, locs, hx _ hT hW.alike, hcell9, hv, hcl, hW, hsm.mono hc hs, hf⟩⟩
theorem vx_frame {U : State} {k n : Nat} (h : s.sameButNew ({ U with vm := s.vm } : State) locs k n) : s.heap.size ≤ U.heap.size ∧ ∀ q : Nat, q < s.heap.size → (∀ z ∈ locs, z.base ≠ q) → U.heap[q]? = s.heap[q]? := by
  obtain ⟨-, h2, -, -, -, h6⟩ := h
  refine ⟨h2, fun q hq hz => ?_⟩
  obtain ⟨c9, e1, e2, e3, e4⟩ := h6 q _ (Array.getElem?_eq_getElem hq)
  have hs : c9.slots = (s.heap[q]).slots := Array.ext_getElem? fun i => e4 i fun hm => hz _ hm rfl
  have h9 : c9 = s.heap[q] := by
    rw [hs] at e2
    exact e2
  have e5 : U.heap[q]? = some c9 := e1
  rw [e5, h9, Array.getElem?_eq_getElem hq]
/-- the words of a throw but the four that speak of the heap -/
def vx_no (w : Cond) : Bool := decide (w ≠ .isRef (.static Bundle.tN "UNASSIGNED_STACK" Bundle.steD)) && decide (w ≠ .isRef (.static Bundle.tN "SUPPRESSED_SENTINEL" Bundle.listD)) && decide (w ≠ .laysStatic Bundle.tN "UNASSIGNED_STACK" Bundle.steD) && decide (w ≠ .laysStatic Bundle.tN "SUPPRESSED_SENTINEL" Bundle.listD)
def vx_at0 (own : String) (ic : Nat) (X : String) (names : List String) : List Cond := (Bundle.ownAtoms0 own ic X names).filter vx_no
def vx_atS (own : String) (ic : Nat) (X : String) (names : List String) : List Cond := (Bundle.ownAtoms own ic X names).filter vx_no
/-- a word that the tables alone decide, or a good one -/
def vx_ot (w : Cond) : Bool := w.onTables || goodWord w
theorem vx_ot_at {args a' : Array Value} {s U : State} {w : Cond} (hW : s.WarmedH U.vm) (hvm : s.vm = U.vm) (hg : vx_ot w = true) (h : w.before args s = true) : w.before a' U = true := by
  simp only [vx_ot, Bool.or_eq_true] at hg
  rcases hg with hg | hg
  · exact va_tabs hg hvm h
  · exact word_at hW (good_of_word hg) h
/-- a list's words: the good ones out of the method's own list, the others by premises of their own -/
theorem vx_hat {args : Array Value} {s : State} {L B : List Cond} (h1 : ∀ w ∈ L.filter goodWord, w.before args s = true) (h2 : ∀ w ∈ L.filter (fun w => !goodWord w), w ∈ B) (h3 : ∀ w ∈ B, w.before args s = true) : ∀ w ∈ L, w.before args s = true := by
  intro w hw
  by_cases g : goodWord w = true
  · exact h1 w (List.mem_filter.mpr ⟨hw, g⟩)
  · refine h3 w (h2 w (List.mem_filter.mpr ⟨hw, ?_⟩))
    show (!goodWord w) = true
    cases hgw : goodWord w
    · rfl
    · exact absurd hgw g
theorem vx_c {args : Array Value} {s : State} {w : Cond} {B : List Cond} (h : w.before args s = true) (t : ∀ w ∈ B, w.before args s = true) : ∀ w' ∈ w :: B, w'.before args s = true := fun w' h' => (List.mem_cons.mp h').elim (fun e => by rw [e]; exact h) (t w')
theorem vx_n {args : Array Value} {s : State} : ∀ w ∈ ([] : List Cond), w.before args s = true := fun _ h => nomatch h
theorem vx_own {args : Array Value} {s : State} {L : List Cond} (h1 : ∀ w ∈ L.filter vx_no, w.before args s = true)
    (hU : (Cond.isRef (.static Bundle.tN "UNASSIGNED_STACK" Bundle.steD)).before args s = true) (hN : (Cond.isRef (.static Bundle.tN "SUPPRESSED_SENTINEL" Bundle.listD)).before args s = true)
    (lU : (Cond.laysStatic Bundle.tN "UNASSIGNED_STACK" Bundle.steD).before args s = true) (lN : (Cond.laysStatic Bundle.tN "SUPPRESSED_SENTINEL" Bundle.listD).before args s = true) : ∀ w ∈ L, w.before args s = true := by
  intro w hw
  by_cases e1 : w = .isRef (.static Bundle.tN "UNASSIGNED_STACK" Bundle.steD)
  · rw [e1]; exact hU
  · by_cases e2 : w = .isRef (.static Bundle.tN "SUPPRESSED_SENTINEL" Bundle.listD)
    · rw [e2]; exact hN
    · by_cases e3 : w = .laysStatic Bundle.tN "UNASSIGNED_STACK" Bundle.steD
      · rw [e3]; exact lU
      · by_cases e4 : w = .laysStatic Bundle.tN "SUPPRESSED_SENTINEL" Bundle.listD
        · rw [e4]; exact lN
        · exact h1 w (List.mem_filter.mpr ⟨hw, by unfold vx_no; rw [decide_eq_true e1, decide_eq_true e2, decide_eq_true e3, decide_eq_true e4]; rfl⟩)
/-- where a static field lies, its class's statics cell in H -/
def vx_L (C n d : String) (A : Nat → Prop) (U : State) (H : Heap) : Prop := ∃ (c : ClassId) (k : Class) (i : Nat) (f : Field) (a : Nat) (cell : Cell), U.vm.findClass C = some c ∧ U.fieldFound? C n d = some (c, k, i, f) ∧ f.isStatic = true ∧ k.statics = some a ∧ H[a]? = some cell ∧ cell.vm.isStatics = true ∧ cell.cls = c ∧ f.slot < cell.slots.size ∧ k.staticTypes[f.slot]? = some f.type ∧ ¬ A a
theorem vx_L.moved {C n d : String} {A : Nat → Prop} {u U : State} {H : Heap} (hvm : u.vm.Alike U.vm) (h : vx_L C n d A u H) : vx_L C n d A U H := by
  obtain ⟨c, k, i, f, a, cell, h1, h2, h3, h4, h5, h6, h7, h8, h9, h10⟩ := h
  obtain ⟨k', hi', he⟩ := State.fieldFound?_setVm hvm h2
  exact ⟨c, k', i, f, a, cell, by rw [hvm.findClass]; exact h1, hi', h3, by rw [he]; exact h4, h5, h6, h7, h8, by rw [he]; exact h9, h10⟩
theorem vx_L.kept {C n d : String} {A : Nat → Prop} {U : State} {H H1 : Heap} (h : vx_L C n d A U H) (hq : ∀ a : Nat, a < H.size → ¬ A a → H1[a]? = H[a]?) : vx_L C n d A U H1 := by
  obtain ⟨c, k, i, f, a, cell, h1, h2, h3, h4, h5, h6, h7, h8, h9, h10⟩ := h
  exact ⟨c, k, i, f, a, cell, h1, h2, h3, h4, by rw [hq a (Array.getElem?_eq_some_iff.mp h5).1 h10]; exact h5, h6, h7, h8, h9, h10⟩
theorem vx_L.narrow {C n d : String} {A B : Nat → Prop} {U : State} {H : Heap} (h : vx_L C n d A U H) (hAB : ∀ q, B q → A q) : vx_L C n d B U H := by
  obtain ⟨c, k, i, f, a, cell, h1, h2, h3, h4, h5, h6, h7, h8, h9, h10⟩ := h
  exact ⟨c, k, i, f, a, cell, h1, h2, h3, h4, h5, h6, h7, h8, h9, fun z => h10 (hAB _ z)⟩
theorem vx_L.word {C n d : String} {A : Nat → Prop} {s : State} {args : Array Value} (h : vx_L C n d A s s.heap) : (Cond.laysStatic C n d).before args s = true := by
  obtain ⟨c, k, i, f, a, cell, h1, h2, h3, h4, h5, h6, h7, h8, h9, -⟩ := h
  show (Cond.laysStatic C n d).holds args s none s [] = true
  exact Cond.laysStatic_of h1 h2 h3 h4 h5 h6 h7 h8 h9
/-- .. and what it holds: null or some reference -/
def vx_Zq (C n d : String) (A : Nat → Prop) (U : State) (H : Heap) : Prop := va_Zq C n d A U H ∧ vx_L C n d A U H
theorem vx_Zq.moved {C n d : String} {A : Nat → Prop} {u U : State} {H : Heap} (hvm : u.vm.Alike U.vm) (h : vx_Zq C n d A u H) : vx_Zq C n d A U H := ⟨va_Zq.moved hvm h.1, vx_L.moved hvm h.2⟩
theorem vx_Zq.kept {C n d : String} {A : Nat → Prop} {U : State} {H H1 : Heap} (h : vx_Zq C n d A U H) (hq : ∀ a : Nat, a < H.size → ¬ A a → H1[a]? = H[a]?) : vx_Zq C n d A U H1 := ⟨va_Zq.kept h.1 hq, vx_L.kept h.2 hq⟩
theorem vx_Zq.narrow {C n d : String} {A B : Nat → Prop} {U : State} {H : Heap} (h : vx_Zq C n d A U H) (hAB : ∀ q, B q → A q) : vx_Zq C n d B U H := ⟨va_Zq.narrow h.1 hAB, vx_L.narrow h.2 hAB⟩
theorem vx_Zqof {args : Array Value} {s : State} {C n d : String} {A : Nat → Prop} (hl : (Cond.laysStatic C n d).before args s = true) (hini : (Cond.initialized C).before args s = true) (h : (Cond.isRef (.static C n d)).before args s = true) (hA : ∀ a : Nat, a < s.heap.size → ¬ A a) : vx_Zq C n d A s s.heap := by
  refine ⟨va_Zqof hl hini h hA, ?_⟩
  obtain ⟨c, k, i, f, a, cell, h1, h2, h3, h4, h5, h6, h7, h8, h9⟩ := Cond.laysStatic_spec hl
  exact ⟨c, k, i, f, a, cell, h1, h2, h3, h4, h5, h6, h7, h8, h9, hA a (Array.getElem?_eq_some_iff.mp h5).1⟩
theorem vx_isRef {C n d : String} {v : Value} {A : Nat → Prop} {s : State} {args : Array Value} (h : va_Z C n d v A s s.heap) (hv : v.isRef = true) : (Cond.isRef (.static C n d)).before args s = true := by
  obtain ⟨cf, kf, fi, f, a, cell, h1, h2, h3, h4, h5, h6, h7, -⟩ := h
  have he : (Term.static C n d).eval args s none [] s = some v := by
    simp [Term.eval, State.fieldNamed?, h1, h2, h4, h5, h6, h7]
  simp only [Cond.before, Cond.holds, Cond.value, he]
  cases v <;> simp_all [Value.isRef]
theorem vx_isRefq {C n d : String} {A : Nat → Prop} {s : State} {args : Array Value} (h : va_Zq C n d A s s.heap) : (Cond.isRef (.static C n d)).before args s = true := by
  rcases h with h | ⟨t, h⟩
  · exact vx_isRef h rfl
  · exact vx_isRef h rfl
/-- the same frame, seen from here: as if the method were called anew in this heap -/
theorem vx_rebase {T : State} (X : Stand p l e R s m args below meth c T locs cells slots) {R' : Room} (hf : R'.frames ≤ R.frames) (hl : R'.locals ≤ R.locals) (hc : cells + R'.cells ≤ R.cells) (hs : slots + R'.slots ≤ R.slots) :
    Stand p l e R' ((T.setVm s.vm).setFrames (.invoking m args :: below)) m args below meth c T [] 0 0 := by
  have htop : (T.setVm s.vm).topJava?.isSome := X.here.top
  have hF : ((T.setVm s.vm).setFrames (.invoking m args :: below)).frames = .invoking m args :: below := State.frames_setFrames _ (State.cur_lt_of_top htop)
  obtain ⟨g₀, hg0⟩ := Option.isSome_iff_exists.mp htop
  obtain ⟨r, hr⟩ := State.topJava?_eq_some.mp hg0
  have hl9 : e.platform.stackLimits (T.setVm s.vm).me = e.platform.stackLimits s.me := X.limits
  have hb9 : (T.setVm s.vm).me.stackBytes = s.me.stackBytes := X.bytes
  refine ⟨X.admits, X.cas, X.clock, hF, ?_, X.hears, X.method, X.code, X.here, X.tail, X.warmed, ?_, ?_, ?_⟩
  · have h := X.room
    have hU : ((T.setVm s.vm).setFrames (.invoking m args :: below)).localsInUse = s.localsInUse := by
      rw [State.localsInUse_invoking hF (meth := meth) (c := c) X.method X.code, State.localsInUse_invoking X.frames X.method X.code]
    simp only [State.hasRoom, Bool.and_eq_true, decide_eq_true_eq] at h ⊢
    obtain ⟨⟨⟨⟨h1, h2, h3, h4, h5, h6⟩, h7⟩, h8⟩, h9⟩ := h
    rw [X.frames, List.length_cons] at h2 h3
    have q1 := X.heapSize
    have q2 := X.used
    simp only [hF, hU, List.length_cons, State.stackLimits_setFrames, State.stackBytes_setFrames, hl9, hb9]
    refine ⟨⟨⟨⟨by omega, by omega, by omega, by omega, by omega, h6⟩, ?_⟩, ?_⟩, X.book⟩
    · show T.heap.size + R'.cells ≤ e.platform.maxCells
      omega
    · show T.slotsUsed + R'.slots ≤ e.platform.maxSlots
      omega
  · rw [State.stackLimits_setFrames]; rfl
  · rw [State.stackBytes_setFrames]; rfl
  · refine ⟨?_, Nat.le_refl _, Nat.le_refl _, ?_, ?_, fun a c9 h9 => ⟨c9, h9, rfl, rfl, fun _ _ => rfl⟩⟩
    · obtain ⟨t, ht, -⟩ := State.frames_cons hr
      show T.setVm s.vm = { ((T.setVm s.vm).setFrames (.invoking m args :: below)).setFrames (T.setVm s.vm).frames with heap := T.heap, slotsUsed := T.slotsUsed }
      rw [State.setFrames_setFrames, State.setFrames_self ht]
      rfl
    · show T.slotsUsed = T.slotsUsed + ((T.heap.toList.drop T.heap.size).map (·.slots.size)).sum
      rw [List.drop_eq_nil_of_le (Nat.le_of_eq Array.length_toList)]
      rfl
    · show ((T.heap.toList.drop T.heap.size).map (·.slots.size)).sum ≤ 0
      rw [List.drop_eq_nil_of_le (Nat.le_of_eq Array.length_toList)]
      exact Nat.le_refl _
/-- 'throw new E()': new; dup; invokespecial; athrow -/
theorem vx_throw0 {cc : ByteArray} {pc : Nat} (hexec : p.tables.exec = Jvm.exec) (hb : c.code = cc) (hl : l.stackTraces = false) {own cls : String} {names : List String} {ik ic mc ms : Nat} {A : Nat → Prop}
    (hown : s.vm.findClass own = some m.cls) (hcls : Bundle.fit cls = true) (hnames : ∀ n ∈ names, Bundle.fit n = true)
    (hk : (Cond.classLink own ik cls).before args s = true) (hini : (Cond.initialized cls).before args s = true) (hat : ∀ w ∈ vx_at0 own ic cls names, w.before args s = true)
    (hgood : ∀ w ∈ Cond.classLink own ik cls :: Cond.initialized cls :: vx_at0 own ic cls names, vx_ot w = true)
    (hU : vx_Zq Bundle.tN "UNASSIGNED_STACK" Bundle.steD A s s.heap) (hN : vx_Zq Bundle.tN "SUPPRESSED_SENTINEL" Bundle.listD A s s.heap) (hS : va_S A s.heap H locs) (hsize : ls.size = c.maxLocals)
    (d0 : decode cc pc = .ok (.new ik, 3)) (d3 : decode cc (pc + 3) = .ok (.dup, 1)) (d4 : decode cc (pc + 4) = .ok (.invokespecial ic, 3)) (d7 : decode cc (pc + 7) = .ok (.athrow, 1))
    (hout : ∀ x ∈ c.exceptionTable.toList, covers x (pc + 7) = false)
    (hRframes : names.length + 3 < R.frames) (hRlocals : (rest.map fun v => v.category).sum + (13 * (names.length + 1) + 42) ≤ R.locals) (hRcells : cells + 1 ≤ R.cells) (hRslots : slots + 6 ≤ R.slots) (hlocks : meth.locks = false)
    (hx : ∀ t : State, s.vm.Alike t.vm → H.size ≤ t.heap.size → (∀ q : Nat, q < H.size → t.heap[q]? = H[q]?) → XC cls s t)
    (hf : ∀ z ∈ locs, free z.base) (hc : cells + 1 ≤ mc) (hs : slots + 6 ≤ ms) :
    W p l e R s m args below meth c H locs cells slots (vx_MQ below Qc XC args s mc ms free) (F0 m pc ls rest) := by
  intro T hT X
  have htr : e.platform.stackTraces = false := (show e.platform.stackTraces = l.stackTraces by rw [X.admits.platform]).trans hl
  have Y := vx_rebase X (R' := { frames := R.frames, locals := R.locals, cells := 1, slots := 6 }) (Nat.le_refl _) (Nat.le_refl _) hRcells hRslots
  obtain ⟨s', hA⟩ : ∃ z, z = (T.setVm s.vm).setFrames (.invoking m args :: below) := ⟨_, rfl⟩
  rw [← hA] at Y
  have hvm : s'.vm = s.vm := by rw [hA]; rfl
  have hhp : s'.heap = H := by rw [hA]; exact hT
  have hW0 : s.WarmedH s'.vm := by rw [hvm]; exact State.WarmedH.refl s
  have hat' : ∀ w ∈ vx_at0 own ic cls names, w.before args s' = true := fun w hw => vx_ot_at hW0 hvm.symm (hgood w (List.mem_cons_of_mem _ (List.mem_cons_of_mem _ hw))) (hat w hw)
  have hk' : (Cond.classLink own ik cls).before args s' = true := vx_ot_at hW0 hvm.symm (hgood _ List.mem_cons_self) hk
  have hini' : (Cond.initialized cls).before args s' = true := vx_ot_at hW0 hvm.symm (hgood _ (List.mem_cons_of_mem _ List.mem_cons_self)) hini
  have hU' : vx_Zq Bundle.tN "UNASSIGNED_STACK" Bundle.steD A s' s'.heap := by rw [hhp]; exact vx_Zq.moved hW0.alike (hU.kept hS.2.1)
  have hN' : vx_Zq Bundle.tN "SUPPRESSED_SENTINEL" Bundle.listD A s' s'.heap := by rw [hhp]; exact vx_Zq.moved hW0.alike (hN.kept hS.2.1)
  have h : ∀ w ∈ Bundle.ownAtoms0 own ic cls names, w.before args s' = true := vx_own hat' (vx_isRefq hU'.1) (vx_isRefq hN'.1) hU'.2.word hN'.2.word
  have hown' : s'.vm.findClass own = some m.cls := by rw [hvm]; exact hown
  have hins : (Cond.instantiable cls 6).before args s' = true := h _ (by simp [Bundle.ownAtoms0])
  obtain ⟨vm₁, cX, kX, hfX, hkX, -, -, X₁, st1⟩ := Y.newCold hexec (own := own) (C := cls) (index := ik) (n := 6) hown' hk' hins hini'
    (g := F0 m pc ls rest) rfl (by rw [hb]; exact d0) (Nat.le_refl _) (Nat.le_refl _)
  generalize hT1 : (T.setVm vm₁).pushCell { cls := cX, slots := kX.instanceTypes.map defaultValue, vm := .none } = T1 at X₁ st1
  have hcat : (Value.ref T.heap.size).category = 1 := rfl
  have hcellA : T1.heap[T.heap.size]? = some (freshCell cX kX) := by rw [← hT1]; exact State.heap_pushCell_size _ _
  have d3' : decode c.code (pc + 3) = .ok (.dup, 1) := by rw [hb]; exact d3
  obtain ⟨U, hsteps, hrun, hend, hW, hsame, ce, hce, hO⟩ := X₁.ctorThrow0 hexec htr (own := own) (cls := cls) (names := names) (ic := ic) hown' hcls hnames h (fun x hx => nomatch hx) hfX hkX hcellA (by rw [hhp, hT]; exact Nat.le_refl _)
    (g := { method := m, pc := pc + 4, locals := ls, stack := .ref T.heap.size :: .ref T.heap.size :: rest, locked := none }) rfl hsize rfl rfl (rest := rest) rfl
    (by rw [hb]; exact d4) (by rw [hb]; exact d7) hout hRframes (by simp only [List.map_cons, List.sum_cons, hcat]; omega) hlocks
  obtain ⟨f1, f2⟩ := vx_frame hsame
  rw [hhp] at f1 f2
  have hWs : s.WarmedH U.vm := State.WarmedH.trans hW0 hW
  have hcl : s.vm.findClass cls = some ce.cls := by
    have h9 := hO.cls
    rw [hvm] at h9
    exact h9
  have hall : s.sameButNew ({ U with vm := s.vm } : State) locs mc ms := by
    subst hA
    obtain ⟨e1, e2⟩ := hsame
    rw [State.setFrames_setFrames] at e1
    have h2 : (T.setVm s.vm).sameButNew ({ U with vm := s.vm } : State) [] (0 + 1) (0 + 6) := ⟨e1, e2⟩
    have h3 := X.same.trans h2
    rw [List.append_nil] at h3
    exact h3.mono hc hs
  refine ⟨U, ?_, .threw T.heap.size, hrun, hend, Or.inr ⟨T.heap.size, rfl, cls, ce, locs, hx U hWs.alike f1 (fun q hq => f2 q hq (fun z hz => nomatch hz)), hce, hO.vm, hcl, hWs, hall, hf⟩⟩
  refine st1 _ ?_
  show Steps p.tables e below (T1.setTop { method := m, pc := pc + 3, locals := ls, stack := .ref T.heap.size :: rest, locked := none }) _
  jvm_step X₁.here [X₁.here.top, hexec, d3', Value.category]
  exact hsteps
/-- 'throw new E("text")': new; dup; ldc; invokespecial; athrow -/
theorem vx_throwS {cc : ByteArray} {pc : Nat} (hexec : p.tables.exec = Jvm.exec) (hb : c.code = cc) (hl : l.stackTraces = false) {own cls text : String} {names : List String} {ik is ic mc ms sa : Nat} {A : Nat → Prop}
    (hown : s.vm.findClass own = some m.cls) (hcls : Bundle.fit cls = true) (hnames : ∀ n ∈ names, Bundle.fit n = true)
    (hk : (Cond.classLink own ik cls).before args s = true) (hini : (Cond.initialized cls).before args s = true) (hstr : vk_R own is text sa s) (hat : ∀ w ∈ vx_atS own ic cls names, w.before args s = true)
    (hgood : ∀ w ∈ Cond.classLink own ik cls :: Cond.initialized cls :: vx_atS own ic cls names, vx_ot w = true)
    (hU : vx_Zq Bundle.tN "UNASSIGNED_STACK" Bundle.steD A s s.heap) (hN : vx_Zq Bundle.tN "SUPPRESSED_SENTINEL" Bundle.listD A s s.heap) (hS : va_S A s.heap H locs) (hsize : ls.size = c.maxLocals)
    (d0 : decode cc pc = .ok (.new ik, 3)) (d3 : decode cc (pc + 3) = .ok (.dup, 1)) (d4 : decode cc (pc + 4) = .ok (.ldc is, 2)) (d6 : decode cc (pc + 6) = .ok (.invokespecial ic, 3)) (d9 : decode cc (pc + 9) = .ok (.athrow, 1))
    (hout : ∀ x ∈ c.exceptionTable.toList, covers x (pc + 9) = false)
    (hRframes : names.length + 3 < R.frames) (hRlocals : (rest.map fun v => v.category).sum + (13 * (names.length + 1) + 43) ≤ R.locals) (hRcells : cells + 1 ≤ R.cells) (hRslots : slots + 6 ≤ R.slots) (hlocks : meth.locks = false)
    (hx : ∀ t : State, s.vm.Alike t.vm → H.size ≤ t.heap.size → (∀ q : Nat, q < H.size → t.heap[q]? = H[q]?) → XC cls s t)
    (hf : ∀ z ∈ locs, free z.base) (hc : cells + 1 ≤ mc) (hs : slots + 6 ≤ ms) :
    W p l e R s m args below meth c H locs cells slots (vx_MQ below Qc XC args s mc ms free) (F0 m pc ls rest) := by
  intro T hT X
  have htr : e.platform.stackTraces = false := (show e.platform.stackTraces = l.stackTraces by rw [X.admits.platform]).trans hl
  have Y := vx_rebase X (R' := { frames := R.frames, locals := R.locals, cells := 1, slots := 6 }) (Nat.le_refl _) (Nat.le_refl _) hRcells hRslots
  obtain ⟨s', hA⟩ : ∃ z, z = (T.setVm s.vm).setFrames (.invoking m args :: below) := ⟨_, rfl⟩
  rw [← hA] at Y
  have hvm : s'.vm = s.vm := by rw [hA]; rfl
  have hhp : s'.heap = H := by rw [hA]; exact hT
  have hW0 : s.WarmedH s'.vm := by rw [hvm]; exact State.WarmedH.refl s
  have hat' : ∀ w ∈ vx_atS own ic cls names, w.before args s' = true := fun w hw => vx_ot_at hW0 hvm.symm (hgood w (List.mem_cons_of_mem _ (List.mem_cons_of_mem _ hw))) (hat w hw)
  have hk' : (Cond.classLink own ik cls).before args s' = true := vx_ot_at hW0 hvm.symm (hgood _ List.mem_cons_self) hk
  have hini' : (Cond.initialized cls).before args s' = true := vx_ot_at hW0 hvm.symm (hgood _ (List.mem_cons_of_mem _ List.mem_cons_self)) hini
  have hU' : vx_Zq Bundle.tN "UNASSIGNED_STACK" Bundle.steD A s' s'.heap := by rw [hhp]; exact vx_Zq.moved hW0.alike (hU.kept hS.2.1)
  have hN' : vx_Zq Bundle.tN "SUPPRESSED_SENTINEL" Bundle.listD A s' s'.heap := by rw [hhp]; exact vx_Zq.moved hW0.alike (hN.kept hS.2.1)
  have h : ∀ w ∈ Bundle.ownAtoms own ic cls names, w.before args s' = true := vx_own hat' (vx_isRefq hU'.1) (vx_isRefq hN'.1) hU'.2.word hN'.2.word
  have hown' : s'.vm.findClass own = some m.cls := by rw [hvm]; exact hown
  have hins : (Cond.instantiable cls 6).before args s' = true := h _ (by simp [Bundle.ownAtoms])
  obtain ⟨vm₁, cX, kX, hfX, hkX, -, -, X₁, st1⟩ := Y.newCold hexec (own := own) (C := cls) (index := ik) (n := 6) hown' hk' hins hini'
    (g := F0 m pc ls rest) rfl (by rw [hb]; exact d0) (Nat.le_refl _) (Nat.le_refl _)
  generalize hT1 : (T.setVm vm₁).pushCell { cls := cX, slots := kX.instanceTypes.map defaultValue, vm := .none } = T1 at X₁ st1
  have hcat : (Value.ref T.heap.size).category = 1 := rfl
  have hcellA : T1.heap[T.heap.size]? = some (freshCell cX kX) := by rw [← hT1]; exact State.heap_pushCell_size _ _
  have d3' : decode c.code (pc + 3) = .ok (.dup, 1) := by rw [hb]; exact d3
  have d4' : decode c.code (pc + 4) = .ok (.ldc is, 2) := by rw [hb]; exact d4
  have hstr' : vk_R own is text sa s' := vk_R.warm hW0 hstr
  obtain ⟨U, hsteps, hrun, hend, hW, hsame, ce, hce, hO⟩ := X₁.ctorThrowS hexec htr (own := own) (cls := cls) (names := names) (ic := ic) hown' hcls hnames h (fun x hx => nomatch hx) hfX hkX hcellA (by rw [hhp, hT]; exact Nat.le_refl _) (msg := .ref sa) rfl
    (g := { method := m, pc := pc + 6, locals := ls, stack := .ref sa :: .ref T.heap.size :: .ref T.heap.size :: rest, locked := none }) rfl hsize rfl rfl (rest := rest) rfl
    (by rw [hb]; exact d6) (by rw [hb]; exact d9) hout hRframes (by simp only [List.map_cons, List.sum_cons, hcat]; omega) hlocks
  obtain ⟨f1, f2⟩ := vx_frame hsame
  rw [hhp] at f1 f2
  have hWs : s.WarmedH U.vm := State.WarmedH.trans hW0 hW
  have hcl : s.vm.findClass cls = some ce.cls := by
    have h9 := hO.cls
    rw [hvm] at h9
    exact h9
  have hall : s.sameButNew ({ U with vm := s.vm } : State) locs mc ms := by
    subst hA
    obtain ⟨e1, e2⟩ := hsame
    rw [State.setFrames_setFrames] at e1
    have h2 : (T.setVm s.vm).sameButNew ({ U with vm := s.vm } : State) [] (0 + 1) (0 + 6) := ⟨e1, e2⟩
    have h3 := X.same.trans h2
    rw [List.append_nil] at h3
    exact h3.mono hc hs
  refine ⟨U, ?_, .threw T.heap.size, hrun, hend, Or.inr ⟨T.heap.size, rfl, cls, ce, locs, hx U hWs.alike f1 (fun q hq => f2 q hq (fun z hz => nomatch hz)), hce, hO.vm, hcl, hWs, hall, hf⟩⟩
  refine st1 _ ?_
  show Steps p.tables e below (T1.setTop { method := m, pc := pc + 3, locals := ls, stack := .ref T.heap.size :: rest, locked := none }) _
  jvm_step X₁.here [X₁.here.top, hexec, d3', Value.category]
  exact X₁.ldcString hexec (own := own) (text := text) (index := is) (a := sa) hown' hstr'.1 hstr'.2
    (g := { method := m, pc := pc + 4, locals := ls, stack := .ref T.heap.size :: .ref T.heap.size :: rest, locked := none }) rfl d4' _ hsteps
/-- 'throw new E("text")', the text by a wide index -/
theorem vx_throwSW {cc : ByteArray} {pc : Nat} (hexec : p.tables.exec = Jvm.exec) (hb : c.code = cc) (hl : l.stackTraces = false) {own cls text : String} {names : List String} {ik is ic mc ms sa : Nat} {A : Nat → Prop}
    (hown : s.vm.findClass own = some m.cls) (hcls : Bundle.fit cls = true) (hnames : ∀ n ∈ names, Bundle.fit n = true)
    (hk : (Cond.classLink own ik cls).before args s = true) (hini : (Cond.initialized cls).before args s = true) (hstr : vk_R own is text sa s) (hat : ∀ w ∈ vx_atS own ic cls names, w.before args s = true)
    (hgood : ∀ w ∈ Cond.classLink own ik cls :: Cond.initialized cls :: vx_atS own ic cls names, vx_ot w = true)
    (hU : vx_Zq Bundle.tN "UNASSIGNED_STACK" Bundle.steD A s s.heap) (hN : vx_Zq Bundle.tN "SUPPRESSED_SENTINEL" Bundle.listD A s s.heap) (hS : va_S A s.heap H locs) (hsize : ls.size = c.maxLocals)
    (d0 : decode cc pc = .ok (.new ik, 3)) (d3 : decode cc (pc + 3) = .ok (.dup, 1)) (d4 : decode cc (pc + 4) = .ok (.ldc_w is, 3)) (d7 : decode cc (pc + 7) = .ok (.invokespecial ic, 3)) (d10 : decode cc (pc + 10) = .ok (.athrow, 1))
    (hout : ∀ x ∈ c.exceptionTable.toList, covers x (pc + 10) = false)
    (hRframes : names.length + 3 < R.frames) (hRlocals : (rest.map fun v => v.category).sum + (13 * (names.length + 1) + 43) ≤ R.locals) (hRcells : cells + 1 ≤ R.cells) (hRslots : slots + 6 ≤ R.slots) (hlocks : meth.locks = false)
    (hx : ∀ t : State, s.vm.Alike t.vm → H.size ≤ t.heap.size → (∀ q : Nat, q < H.size → t.heap[q]? = H[q]?) → XC cls s t)
    (hf : ∀ z ∈ locs, free z.base) (hc : cells + 1 ≤ mc) (hs : slots + 6 ≤ ms) :
    W p l e R s m args below meth c H locs cells slots (vx_MQ below Qc XC args s mc ms free) (F0 m pc ls rest) := by
  intro T hT X
  have htr : e.platform.stackTraces = false := (show e.platform.stackTraces = l.stackTraces by rw [X.admits.platform]).trans hl
  have Y := vx_rebase X (R' := { frames := R.frames, locals := R.locals, cells := 1, slots := 6 }) (Nat.le_refl _) (Nat.le_refl _) hRcells hRslots
  obtain ⟨s', hA⟩ : ∃ z, z = (T.setVm s.vm).setFrames (.invoking m args :: below) := ⟨_, rfl⟩
  rw [← hA] at Y
  have hvm : s'.vm = s.vm := by rw [hA]; rfl
  have hhp : s'.heap = H := by rw [hA]; exact hT
  have hW0 : s.WarmedH s'.vm := by rw [hvm]; exact State.WarmedH.refl s
  have hat' : ∀ w ∈ vx_atS own ic cls names, w.before args s' = true := fun w hw => vx_ot_at hW0 hvm.symm (hgood w (List.mem_cons_of_mem _ (List.mem_cons_of_mem _ hw))) (hat w hw)
  have hk' : (Cond.classLink own ik cls).before args s' = true := vx_ot_at hW0 hvm.symm (hgood _ List.mem_cons_self) hk
  have hini' : (Cond.initialized cls).before args s' = true := vx_ot_at hW0 hvm.symm (hgood _ (List.mem_cons_of_mem _ List.mem_cons_self)) hini
  have hU' : vx_Zq Bundle.tN "UNASSIGNED_STACK" Bundle.steD A s' s'.heap := by rw [hhp]; exact vx_Zq.moved hW0.alike (hU.kept hS.2.1)
  have hN' : vx_Zq Bundle.tN "SUPPRESSED_SENTINEL" Bundle.listD A s' s'.heap := by rw [hhp]; exact vx_Zq.moved hW0.alike (hN.kept hS.2.1)
  have h : ∀ w ∈ Bundle.ownAtoms own ic cls names, w.before args s' = true := vx_own hat' (vx_isRefq hU'.1) (vx_isRefq hN'.1) hU'.2.word hN'.2.word
  have hown' : s'.vm.findClass own = some m.cls := by rw [hvm]; exact hown
  have hins : (Cond.instantiable cls 6).before args s' = true := h _ (by simp [Bundle.ownAtoms])
  obtain ⟨vm₁, cX, kX, hfX, hkX, -, -, X₁, st1⟩ := Y.newCold hexec (own := own) (C := cls) (index := ik) (n := 6) hown' hk' hins hini'
    (g := F0 m pc ls rest) rfl (by rw [hb]; exact d0) (Nat.le_refl _) (Nat.le_refl _)
  generalize hT1 : (T.setVm vm₁).pushCell { cls := cX, slots := kX.instanceTypes.map defaultValue, vm := .none } = T1 at X₁ st1
  have hcat : (Value.ref T.heap.size).category = 1 := rfl
  have hcellA : T1.heap[T.heap.size]? = some (freshCell cX kX) := by rw [← hT1]; exact State.heap_pushCell_size _ _
  have d3' : decode c.code (pc + 3) = .ok (.dup, 1) := by rw [hb]; exact d3
  have d4' : decode c.code (pc + 4) = .ok (.ldc_w is, 3) := by rw [hb]; exact d4
  have hstr' : vk_R own is text sa s' := vk_R.warm hW0 hstr
  obtain ⟨U, hsteps, hrun, hend, hW, hsame, ce, hce, hO⟩ := X₁.ctorThrowS hexec htr (own := own) (cls := cls) (names := names) (ic := ic) hown' hcls hnames h (fun x hx => nomatch hx) hfX hkX hcellA (by rw [hhp, hT]; exact Nat.le_refl _) (msg := .ref sa) rfl
    (g := { method := m, pc := pc + 7, locals := ls, stack := .ref sa :: .ref T.heap.size :: .ref T.heap.size :: rest, locked := none }) rfl hsize rfl rfl (rest := rest) rfl
    (by rw [hb]; exact d7) (by rw [hb]; exact d10) hout hRframes (by simp only [List.map_cons, List.sum_cons, hcat]; omega) hlocks
  obtain ⟨f1, f2⟩ := vx_frame hsame
  rw [hhp] at f1 f2
  have hWs : s.WarmedH U.vm := State.WarmedH.trans hW0 hW
  have hcl : s.vm.findClass cls = some ce.cls := by
    have h9 := hO.cls
    rw [hvm] at h9
    exact h9
  have hall : s.sameButNew ({ U with vm := s.vm } : State) locs mc ms := by
    subst hA
    obtain ⟨e1, e2⟩ := hsame
    rw [State.setFrames_setFrames] at e1
    have h2 : (T.setVm s.vm).sameButNew ({ U with vm := s.vm } : State) [] (0 + 1) (0 + 6) := ⟨e1, e2⟩
    have h3 := X.same.trans h2
    rw [List.append_nil] at h3
    exact h3.mono hc hs
  refine ⟨U, ?_, .threw T.heap.size, hrun, hend, Or.inr ⟨T.heap.size, rfl, cls, ce, locs, hx U hWs.alike f1 (fun q hq => f2 q hq (fun z hz => nomatch hz)), hce, hO.vm, hcl, hWs, hall, hf⟩⟩
  refine st1 _ ?_
  show Steps p.tables e below (T1.setTop { method := m, pc := pc + 3, locals := ls, stack := .ref T.heap.size :: rest, locked := none }) _
  jvm_step X₁.here [X₁.here.top, hexec, d3', Value.category]
  exact X₁.ldcStringW hexec (own := own) (text := text) (index := is) (a := sa) hown' hstr'.1 hstr'.2
    (g := { method := m, pc := pc + 4, locals := ls, stack := .ref T.heap.size :: .ref T.heap.size :: rest, locked := none }) rfl d4' _ hsteps
end Ends
section Bodies
variable {l : Launch}
theorem vx_ofW {y : MethodName} {ws ws' : List Cond} {rm : Room} {Pc : Array Value → State → Prop} {Qc : Array Value → State → Outcome → State → Prop} {XC : String → State → State → Prop} {mc ms : Nat} {free : Addr → Prop} {cc : ByteArray} {maxL : Nat} {ret : Option FieldType}
    (hy : plainName y.cls = true) (hw : ws = Cond.code y cc maxL ret :: ws')
    (body : ∀ p e s m args below meth c s₁, BodyLoose p l y (headSpec ws rm) cc maxL ret e s m args below meth c s₁ → c.maxLocals = maxL → (∀ x ∈ c.exceptionTable.toList, False) → Pc args s →
      W p l e (headSpec ws rm).room s m args below meth c s.heap [] 0 0 (vx_MQ below Qc XC args s mc ms free) (entryFrame m args maxL)) : vx_Met l y ws rm Pc Qc XC mc ms free := by
  refine MetFree.of_bodyS (code := cc) (maxLocals := maxL) (ret := ret) hy ?_ ?_
  · intro args s m h hn
    obtain ⟨meth, c, h1, h2, h3, h4, h5, h6, -, -⟩ := Cond.code_spec hn (atoms_spec (ws := ws) h _ (by rw [hw]; exact List.mem_cons_self))
    exact ⟨meth, c, h1, h2, h3, h4, h5, h6⟩
  · intro p e s m args below meth c s₁ B hml hP _
    have hh0 : s₁.heap = s.heap := by rw [B.state]; rfl
    have ht : ∀ x ∈ c.exceptionTable.toList, False := by
      obtain ⟨meth9, c9, h1, h2, -, -, -, -, h7, -⟩ := Cond.code_spec B.named (atoms_spec (ws := ws) B.pre _ (by rw [hw]; exact List.mem_cons_self))
      cases Option.some.inj (h1.symm.trans B.method)
      cases Option.some.inj (h2.symm.trans (Stand.of_body B).code)
      intro x hx
      rw [Array.isEmpty_iff.mp h7] at hx
      cases hx
    obtain ⟨t, a1, o, b1, b2, b3⟩ := body p e s m args below meth c s₁ B hml ht hP s₁ hh0 (Stand.of_body B)
    exact ⟨t, o, a1, b1, b2, b3⟩
/-- the table of a body with handlers -/
theorem vx_table {p : Program} {x y : MethodName} {S : Spec} {cc bytes : ByteArray} {maxL maxL' : Nat} {ret ret' : Option FieldType} {e : Env} {s s₁ : State} {m : MethodId} {args : Array Value} {below : List Frame} {meth : Method} {c : Code} {hh : List (Nat × Nat × Nat × Nat)}
    (B : BodyLoose p l y S cc maxL ret e s m args below meth c s₁) (h : (Cond.codeWith y bytes maxL' ret' hh).before args s = true) : c.exceptionTable.toList = tableOf hh := by
  obtain ⟨m9, meth9, c9, hn9, h1, h2, -, -, h6, -⟩ := Cond.codeWith_spec h
  cases Option.some.inj (hn9.symm.trans B.named)
  cases Option.some.inj (h1.symm.trans B.method)
  cases Option.some.inj (h2.symm.trans (Stand.of_body B).code)
  rw [← h6, table_eq]
end Bodies
end VXA
/-! ===== END ===== -/
/-! ===== BEGIN a static call of a method with an exception table ===== -/
section VXS
variable {p : Program} {l : Launch} {e : Env} {R : Room} {s : State} {m : MethodId} {args : Array Value} {below : List Frame} {meth : Method} {c : Code} {T : State} {H : Heap} {locs : List Loc} {cells slots : Nat}
abbrev vx_CSW (R : Room) (s : State) (args : Array Value) (own : String) (index : Nat) (y : MethodName) (bytes : ByteArray) (maxL : Nat) (ret : Option FieldType) (hh : List (Nat × Nat × Nat × Nat)) (ws : List Cond) (rm : Room) (mc ms n : Nat) : Prop :=
  (rm.cells = mc ∧ rm.slots = ms ∧ rm.frames + 1 ≤ R.frames ∧ 8 + (maxL + 11) + rm.locals ≤ R.locals ∧ (∀ w ∈ ws, ∀ (a' : Array Value) (U : State), s.WarmedH U.vm → w.before a' U = true) ∧ Cond.codeWith y bytes maxL ret hh ∈ ws) ∧
  (Cond.codeWith y bytes maxL ret hh).before args s = true ∧ (Cond.initialized y.cls).before args s = true ∧ (y.cls ≠ "java/lang/invoke/MethodHandle" ∧ y.cls ≠ "java/lang/invoke/VarHandle") ∧
  (∀ sig, parseMethodDescriptor y.desc = some sig → n = sig.parameters.length) ∧ (Cond.methodLink own index y).before args s = true ∧ (Cond.static y).before args s = true
theorem vx_cwSW {own : String} {index maxL mc ms : Nat} {y : MethodName} {bytes : ByteArray} {ret : Option FieldType} {hh : List (Nat × Nat × Nat × Nat)} {Ts ws ws' : List Cond} {rm : Room} (n : Nat) (ht : ∀ w ∈ Ts, w.before args s = true) (hT : GoodIn Ts (va_wsS own index y ws)) (hw : ws = Cond.codeWith y bytes maxL ret hh :: ws') (hrc : rm.cells = mc) (hrs : rm.slots = ms)
    (hd : y.cls ≠ "java/lang/invoke/MethodHandle" ∧ y.cls ≠ "java/lang/invoke/VarHandle" ∧ (parseMethodDescriptor y.desc).map (fun d => d.parameters.length) = some n) (hR : rm.frames + 1 ≤ R.frames ∧ 8 + (maxL + 11) + rm.locals ≤ R.locals) :
    vx_CSW R s args own index y bytes maxL ret hh ws rm mc ms n := by
  have ok : ∀ w ∈ va_wsS own index y ws, w.before args s = true := fun w h => ht w (hT w h).1
  have hG : GoodIn Ts ws := fun w h => hT w (by unfold va_wsS; exact List.mem_append_right _ h)
  have hc : Cond.codeWith y bytes maxL ret hh ∈ ws := by rw [hw]; exact List.mem_cons_self
  refine ⟨⟨hrc, hrs, hR.1, hR.2, pay_in ht hG, hc⟩, ht _ (hG _ hc).1, ok _ (by simp [va_wsS]), ⟨hd.1, hd.2.1⟩, fun sig h => ?_, ok _ (by simp [va_wsS]), ok _ (by simp [va_wsS])⟩
  have h2 := hd.2.2
  rw [h] at h2
  exact (Option.some.inj h2).symm
theorem vx_callSW (X : Stand p l e R s m args below meth c T locs cells slots) (hexec : p.tables.exec = Jvm.exec) {own : String} {index : Nat} {y : MethodName} {bytes : ByteArray} {maxL : Nat} {ret : Option FieldType} {hh : List (Nat × Nat × Nat × Nat)}
    (hown : s.vm.findClass own = some m.cls) (hlink : (Cond.methodLink own index y).before args s = true) (hstat : (Cond.static y).before args s = true) (hinit : (Cond.initialized y.cls).before args s = true)
    (hcode : (Cond.codeWith y bytes maxL ret hh).before args s = true) (hy : y.cls ≠ "java/lang/invoke/MethodHandle" ∧ y.cls ≠ "java/lang/invoke/VarHandle")
    {W9 : Nat} {Pre : Pt → Array Value → Prop} {Post : Pt → Array Value → Option Value → Pt → Prop} (hK : Back l R p e below s args y 3 W9 Pre Post)
    {g : JFrame} (hg : g.method = m) (hsize : g.locals.size = c.maxLocals) {argsL rest : List Value} (hlen : ∀ sig, parseMethodDescriptor y.desc = some sig → argsL.length = sig.parameters.length)
    (hstack : g.stack = argsL.reverse ++ rest) (hW : 2 * g.monitorRoom + (rest.map fun v => v.category).sum ≤ W9) (hdg : decode c.code g.pc = .ok (.invokestatic index, 3))
    (hpre : ∀ vm₁, s.WarmedH vm₁ → Pre ⟨T.setVm vm₁, locs, cells, slots⟩ argsL.toArray) :
    ∃ (v : Option Value) (vm₁ : Vm) (B : Pt), s.WarmedH vm₁ ∧ Stand p l e R s m args below meth c B.U B.locs B.cells B.slots ∧ Post ⟨T.setVm vm₁, locs, cells, slots⟩ argsL.toArray v B ∧
      ∀ target, Steps p.tables e below (B.U.setTop { g with pc := g.pc + 3, stack := v.toList ++ rest }) target → Steps p.tables e below (T.setTop g) target := by
  obtain ⟨mk, methM, cM, hnamed, hmethM, -, -, -, -, -, -, hsigM⟩ := Cond.codeWith_spec hcode
  have hstatic : methM.isStatic = true := Cond.static_spec hnamed hmethM hstat
  obtain ⟨kP, hkP, -⟩ := className_of_methodNamed hnamed
  have hinitP : kP.init = .initialized := Cond.initialized_spec (findClass_of_methodNamed hnamed) hkP hinit
  obtain ⟨vm₁, X₁, hstep₁⟩ := X.invokestatic hexec hown hlink hnamed hmethM hstatic hkP hinitP hy (g := g) hg (argsL := argsL) (rest := rest) (hlen _ hsigM) hstack hdg
  obtain ⟨v, B, X', hpost, hsteps⟩ := hK m meth c ⟨T.setVm vm₁, locs, cells, slots⟩ { g with stack := rest } (.invokestatic index) mk argsL.toArray X₁ hg hsize hdg hW (X₁.named hnamed) (hpre vm₁ X₁.warmed)
  exact ⟨v, vm₁, B, X₁.warmed, X', hpost, fun target h => hstep₁ _ fun acts => by rw [doInvoke_state]; exact hsteps.trans h⟩
theorem vx_runSW {y : MethodName} {bytes cc : ByteArray} {maxL nL mc ms n index : Nat} {ret : Option FieldType} {hh : List (Nat × Nat × Nat × Nat)} {ws : List Cond} {rm : Room} {Pc : Array Value → State → Prop} {Qc : Array Value → State → Outcome → State → Prop} {free : Addr → Prop} {Ts : List Cond} {own : String} {As rest : List Value} {g : JFrame}
    (S : CallFix p m c cc nL s args Ts own) (hM : Met l y ws rm Pc Qc mc ms free) (cw : vx_CSW R s args own index y bytes maxL ret hh ws rm mc ms n) (hp : PreS s H Pc As)
    (hg : g.method = m) (hn : As.length = n) (hsize : g.locals.size = nL) (hstack : g.stack = As.reverse ++ rest) (hW : 2 * g.monitorRoom + (rest.map fun v => v.category).sum ≤ 8) (hdg : decode cc g.pc = .ok (.invokestatic index, 3)) (hf : cells + mc ≤ R.cells ∧ slots + ms ≤ R.slots) :
    va_Run p l e R s m args below meth c H locs cells slots mc ms g rest (Qc As.toArray) (free) := by
  obtain ⟨⟨hrc, hrs, hfr, hlo, hws, hcw⟩, hcode, hini, hy, hlen, hl, hstt⟩ := cw
  have hK : Back l R p e below s args y 3 8 (PreOf R mc ms Pc) (PostOf Qc mc ms free) := va_backW (hh := hh) (bytes := bytes) (maxL := maxL) (ret := ret) hM hp.1 hrc hrs hfr hlo hws hcw (fun a' U hW => word_at hW (Or.inl (by first | rfl | simp [Cond.onTables, Cond.keeps, Cond.steady])) hini)
  obtain ⟨hx, hb, hml, ho, -⟩ := S
  intro T hT X
  obtain ⟨v, vm₁, ⟨U', l2, c2, s2⟩, hW₁, X', ⟨g', mk, t, L, e1, e2, hq, h1, hL, h2, h3⟩, st⟩ := vx_callSW X hx (hh := hh) (bytes := bytes) (maxL := maxL) (ret := ret) ho hl hstt hini hcode hy hK hg (hsize.trans hml.symm) (argsL := As) (rest := rest) (fun sig h => hn.trans (hlen sig h)) hstack hW (by rw [hb]; exact hdg)
    (fun vm₁ hW₁ => ⟨hf.1, hf.2, hp.2 (T.setVm vm₁) hT hW₁⟩)
  dsimp only [Pt.U, Pt.locs, Pt.cells, Pt.slots] at X' e1 e2 h1 h2 h3 st
  subst h1; subst h2; subst h3
  exact ⟨v, (T.setVm vm₁).calling g' mk As.toArray, t, U', L, hT, X', hL, e1, e2, hq, st⟩
/-- not caught here, past rows that name other classes: it goes on to the caller -/
theorem vx_outP {p : Program} {l : Launch} {e : Env} {R : Room} {s : State} {m : MethodId} {args : Array Value} {below : List Frame} {meth : Method} {c : Code} {H : Heap} {locs : List Loc} {cells slots : Nat} {free : Addr → Prop} {ls : Array Slot} {rest : List Value} {Qc : Array Value → State → Outcome → State → Prop} {XC : String → State → State → Prop}
    {pc : Nat} {own E : String} {ce : Cell} {q : Addr} {mc ms : Nat} (hown : s.vm.findClass own = some m.cls) (hlocks : meth.locks = false)
    (hpass : ∀ z ∈ c.exceptionTable.toList, covers z pc = false ∨ (z.catchType ≠ 0 ∧ ∃ nm : String, (Cond.classLink own z.catchType nm).before args s = true ∧ va_Nc E nm s)) (hcell : H[q]? = some ce) (hv : ce.vm = .none) (hcl : s.vm.findClass E = some ce.cls)
    (hx : ∀ t : State, t.heap = H → s.vm.Alike t.vm → XC E s t) (hf : ∀ z ∈ locs, free z.base) (hc : cells ≤ mc) (hs : slots ≤ ms) :
    vx_W p l e R s m args below meth c H locs cells slots (vx_MQ below Qc XC args s mc ms free) (F0 m pc ls rest) q := by
  intro T hT X
  have hpl : e.platform.magicAccessors = ({} : Platform).magicAccessors := by rw [X.admits.platform]
  obtain ⟨vm', hW', X', st⟩ := X.outThrough hlocks q (g := F0 m pc ls rest) rfl rfl rfl (cell := ce) (by rw [hT]; exact hcell) (by rw [hv]; rfl)
    (by obtain ⟨k9, h9, -⟩ := Vm.findClass_spec hcl; exact ⟨k9, h9⟩) (fun z hz => by
      rcases hpass z hz with h | ⟨hz0, nm, hl1, hn1⟩
      · exact Or.inl h
      · obtain ⟨c6, hc6, hcl6⟩ := Cond.classLink_spec hown hl1 e.platform hpl
        obtain ⟨a8, b8, h1, h2, h3⟩ := hn1
        cases Option.some.inj (h1.symm.trans hcl)
        cases Option.some.inj (h2.symm.trans hc6)
        exact Or.inr ⟨hz0, _, hcl6, h3⟩)
  obtain ⟨g₀, hfr⟩ := X'.frames_eq
  have hcell9 : ((T.setVm vm').setFrames (.throwing q :: below)).heap[q]? = some ce := by
    show T.heap[q]? = some ce
    rw [hT]; exact hcell
  have hend : Ended ((T.setVm vm').setFrames (.throwing q :: below)) below (.threw q) := State.frames_setFrames _ (State.cur_lt_of_frames hfr)
  refine ⟨(T.setVm vm').setFrames (.throwing q :: below), ?_, .threw q, X'.here.running, hend, Or.inr ⟨q, rfl, E, ce, locs, hx _ hT (X'.ends _).1.alike, hcell9, hv, hcl, (X'.ends _).1, (X'.ends _).2.mono hc hs, hf⟩⟩
  rw [X.pushThrowing_eq]
  exact st
/-- a thing of a world lies in the heap -/
theorem vx_lt {D : va_G} {cl : List vw_C} {ws : va_W} {H1 : Heap} (h : va_P D cl ws H1) {k : Nat} {q : Nat × va_E} (hk : ws[k]? = some q) : q.1 < H1.size := (h k q hk).lt
end VXS
/-! ===== END ===== -/
/-! ===== BEGIN methods with a table of their own: called by a name, returning or throwing ===== -/
section VXH
/-! vx_backW, vx_callVX, vx_callSX, vx_callVW, vx_runVW, vx_runVX, vx_runSX, vx_ofWH follow the same proofs as their sisters above (Free/Laws.lean, Shelf42/LK1.lean); vx_outP calls Shelf42/NT130.lean (outThrough). -/
section
variable {l : Launch} {R : Room} {p : Program} {e : Env} {below : List Frame} {s : State} {sargs : Array Value} {y : MethodName} {len W9 : Nat}
theorem vx_backW {ws : List Cond} {rm : Room} {Pc : Array Value → State → Prop} {Qc : Array Value → State → Outcome → State → Prop} {XC : String → State → State → Prop} {mc ms : Nat} {free : Addr → Prop} {bytes : ByteArray} {maxL : Nat} {ret : Option FieldType} {hh : List (Nat × Nat × Nat × Nat)}
    (hM : vx_Met l y ws rm Pc Qc XC mc ms free) (hblind : FrameBlind Pc) (hrc : rm.cells = mc) (hrs : rm.slots = ms)
    (hframes : rm.frames + 1 ≤ R.frames) (hlocals : W9 + (maxL + 11) + rm.locals ≤ R.locals)
    (hws : ∀ w ∈ ws, ∀ a' U, s.WarmedH U.vm → w.before a' U = true) (hcode : Cond.codeWith y bytes maxL ret hh ∈ ws) (hinit : ∀ a' U, s.WarmedH U.vm → (Cond.initialized y.cls).before a' U = true) :
    vx_Back l R p e below s sargs y len W9 (PreOf R mc ms Pc) (PostOf Qc mc ms free) (vx_Post XC mc ms free) := by
  intro m meth c A g ig mk a X hg hsize hdg hW hn hp
  have h1 : (headSpec ws rm).pre.before a A.U = true := atoms_intro fun w hw => hws w hw _ _ X.warmed
  have h2 : (Cond.codeWith y bytes maxL ret hh).before a A.U = true := hws _ hcode _ _ X.warmed
  have h3 : (Cond.initialized y.cls).before a A.U = true := hinit _ _ X.warmed
  have h4 : A.cells + (headSpec ws rm).room.cells ≤ R.cells := by rw [show (headSpec ws rm).room.cells = mc from hrc]; exact hp.1
  have h5 : A.slots + (headSpec ws rm).room.slots ≤ R.slots := by rw [show (headSpec ws rm).room.slots = ms from hrs]; exact hp.2.1
  have hPc : Pc a (A.U.calling g mk a) := hblind _ _ _ _ hp.2.2
  obtain ⟨U, Ls, c0, s0⟩ := A
  dsimp only [Pt.U, Pt.locs, Pt.cells, Pt.slots] at h1 h2 h3 h4 h5 X hn hPc ⊢
  obtain ⟨m9, methY, cY, hn9, hmY, hcY, -, hlY, -⟩ := Cond.codeWith_spec h2
  cases Option.some.inj (hn9.symm.trans hn)
  obtain ⟨kY, hkY, -⟩ := className_of_methodNamed hn
  have hinitY : kY.init = .initialized := Cond.initialized_spec (findClass_of_methodNamed hn) hkY h3
  have h : At U g.method c below := by rw [hg]; exact X.here
  have hlocals9 : W9 + (maxL + 11) + (headSpec ws rm).room.locals ≤ R.locals := hlocals
  have happ : (headSpec ws rm).appliesLoose y e.platform (U.calling g mk a) = true :=
    Spec.appliesLoose_calling (g := g) h hdg hn hkY hinitY
      (X.room_calling (g := g) (R' := (headSpec ws rm).room) hsize hmY hcY hframes (by rw [hlY]; omega) h4 h5) h1
  obtain ⟨mid, hmid⟩ := h.above
  have hfr : (U.setTop g).frames = (.java g :: mid) ++ below := by rw [State.frames_setTop' g h.top, hmid]; rfl
  obtain ⟨o, s₂, hsteps, -, hend, hq⟩ := Steps.callFree hM p X.admits X.cas X.clock (acts := []) hfr happ hPc trivial
  have hq' : vx_Q Qc XC mc ms free a (U.calling g mk a) o s₂ := hq
  rw [State.frames_setTop' g h.top] at hend
  obtain ⟨g₀, hg0⟩ := Option.isSome_iff_exists.mp h.top
  obtain ⟨r, hr⟩ := State.topJava?_eq_some.mp hg0
  have hr' : (({ U with heap := s₂.heap, slotsUsed := s₂.slotsUsed } : State).setVm s₂.vm).frames = .java g₀ :: r := hr
  rcases hq' with ⟨hqc, L, hfe, hL⟩ | ⟨q, rfl, E, ce, L, hx, hce, hcv, hcl, hW₂, hsm, hL⟩
  · obtain ⟨⟨v, rfl⟩, hW₂, e2, q2, q3, q4, q5, q6⟩ := id hfe
    have e3 : s₂ = ({ (U.calling g mk a).setFrames s₂.frames with heap := s₂.heap, slotsUsed := s₂.slotsUsed } : State).setVm s₂.vm := by
      have : s₂ = ({ s₂ with vm := (U.calling g mk a).vm } : State).setVm s₂.vm := rfl
      rw [e2] at this
      exact this
    obtain ⟨c₂, i₂, len₂, hc₂, hd₂, hf₂⟩ := hend
    have hW' : U.WarmedH s₂.vm := hW₂
    have hcc : c₂ = c := by
      have h1 : s₂.code? g.method = U.code? g.method := by
        rw [State.code?_eq, State.code?_eq, hW'.alike.method?]
      exact Option.some.inj (hc₂.symm.trans (h1.trans h.code))
    subst hcc
    have hlen : len₂ = len := by rw [hdg] at hd₂; cases hd₂; rfl
    subst hlen
    have hs₂ : s₂ = (({ U with heap := s₂.heap, slotsUsed := s₂.slotsUsed } : State).setVm s₂.vm).setTop { g with pc := g.pc + len₂, stack := v.toList ++ g.stack } := by
      refine e3.trans ?_
      rw [hf₂, State.calling_eq h.top, State.setFrames_setFrames, State.setTop_of_frames _ hr', hr]
      rfl
    have hsame : U.sameButNew ({ U with heap := s₂.heap, slotsUsed := s₂.slotsUsed } : State) L mc ms := by
      refine ⟨?_, q2, q3, q4, q5, q6⟩
      obtain ⟨t, ht, -⟩ := State.frames_cons hr
      show ({ U with heap := s₂.heap, slotsUsed := s₂.slotsUsed } : State) = { U.setFrames U.frames with heap := s₂.heap, slotsUsed := s₂.slotsUsed }
      rw [State.setFrames_self ht]
    subst hg
    refine Or.inl ⟨v, ⟨(({ U with heap := s₂.heap, slotsUsed := s₂.slotsUsed } : State).setVm s₂.vm), Ls ++ L, c0 + mc, s0 + ms⟩,
      ⟨X.admits, X.cas, X.clock, X.frames, X.room, X.hears, X.method, X.code, (X.here.setHeapUsed s₂.heap s₂.slotsUsed).setVm hW'.alike, X.tail, State.WarmedH.trans X.warmed hW', X.limits, X.bytes, X.same.trans (hsame.setVm s.vm)⟩,
      ⟨g, mk, s₂, L, rfl, rfl, hqc, rfl, hL, rfl, rfl⟩, ?_⟩
    show Steps p.tables e below _ ((({ U with heap := s₂.heap, slotsUsed := s₂.slotsUsed } : State).setVm s₂.vm).setTop { g with pc := g.pc + len₂, stack := v.toList ++ g.stack })
    rw [← hs₂]
    exact hsteps
  · obtain ⟨e2, q2, q3, q4, q5, q6⟩ := id hsm
    have e3 : s₂ = ({ (U.calling g mk a).setFrames s₂.frames with heap := s₂.heap, slotsUsed := s₂.slotsUsed } : State).setVm s₂.vm := by
      have : s₂ = ({ s₂ with vm := (U.calling g mk a).vm } : State).setVm s₂.vm := rfl
      rw [e2] at this
      exact this
    have hf₂ : s₂.frames = .throwing q :: .java g :: U.frames.tail := hend
    have hW' : U.WarmedH s₂.vm := hW₂
    have hs₂ : s₂ = ((({ U with heap := s₂.heap, slotsUsed := s₂.slotsUsed } : State).setVm s₂.vm).setTop g).pushFrame (.throwing q) := by
      refine e3.trans ?_
      rw [hf₂, State.calling_eq h.top, State.setFrames_setFrames, State.pushFrame, State.frames_setTop _ hr', State.setTop_of_frames _ hr', State.setFrames_setFrames, hr]
      rfl
    have hsame : U.sameButNew ({ U with heap := s₂.heap, slotsUsed := s₂.slotsUsed } : State) L mc ms := by
      refine ⟨?_, q2, q3, q4, q5, q6⟩
      obtain ⟨t, ht, -⟩ := State.frames_cons hr
      show ({ U with heap := s₂.heap, slotsUsed := s₂.slotsUsed } : State) = { U.setFrames U.frames with heap := s₂.heap, slotsUsed := s₂.slotsUsed }
      rw [State.setFrames_self ht]
    subst hg
    refine Or.inr ⟨q, ⟨(({ U with heap := s₂.heap, slotsUsed := s₂.slotsUsed } : State).setVm s₂.vm), Ls ++ L, c0 + mc, s0 + ms⟩,
      ⟨X.admits, X.cas, X.clock, X.frames, X.room, X.hears, X.method, X.code, (X.here.setHeapUsed s₂.heap s₂.slotsUsed).setVm hW'.alike, X.tail, State.WarmedH.trans X.warmed hW', X.limits, X.bytes, X.same.trans (hsame.setVm s.vm)⟩,
      ⟨g, mk, s₂, L, E, ce, rfl, rfl, hx, hce, hcv, hcl, rfl, hL, rfl, rfl⟩, ?_⟩
    show Steps p.tables e below _ (((({ U with heap := s₂.heap, slotsUsed := s₂.slotsUsed } : State).setVm s₂.vm).setTop g).pushFrame (.throwing q))
    rw [← hs₂]
    exact hsteps
end
variable {p : Program} {l : Launch} {e : Env} {R : Room} {s : State} {m : MethodId} {args : Array Value} {below : List Frame} {meth : Method} {c : Code} {T : State} {H : Heap} {locs : List Loc} {cells slots : Nat}
theorem vx_callVX (X : Stand p l e R s m args below meth c T locs cells slots) (hexec : p.tables.exec = Jvm.exec) {own C : String} {index : Nat} {y : MethodName} {bytes : ByteArray} {maxL : Nat} {ret : Option FieldType} {hh : List (Nat × Nat × Nat × Nat)}
    (hown : s.vm.findClass own = some m.cls) (hlink : (Cond.methodLink own index y).before args s = true) (hinst : (Cond.instanceMethod y).before args s = true) (hsel : (Cond.selects C y y).before args s = true)
    (hcode : (Cond.codeWith y bytes maxL ret hh).before args s = true) (hy : y.cls ≠ "java/lang/invoke/MethodHandle" ∧ y.cls ≠ "java/lang/invoke/VarHandle")
    {W9 : Nat} {Pre : Pt → Array Value → Prop} {Post : Pt → Array Value → Option Value → Pt → Prop} {PostX : Pt → Array Value → Addr → Pt → Prop} (hK : vx_Back l R p e below s args y 3 W9 Pre Post PostX)
    {b : Addr} {cellB : Cell} (hcell : T.heap[b]? = some cellB) (hobj : cellB.vm.isStatics = false) (hcls : s.vm.findClass C = some cellB.cls)
    {g : JFrame} (hg : g.method = m) (hsize : g.locals.size = c.maxLocals) {argsL rest : List Value} (hlen : ∀ sig, parseMethodDescriptor y.desc = some sig → argsL.length = sig.parameters.length)
    (hstack : g.stack = argsL.reverse ++ .ref b :: rest) (hW : 2 * g.monitorRoom + (rest.map fun v => v.category).sum ≤ W9) (hdg : decode c.code g.pc = .ok (.invokevirtual index, 3))
    (hpre : ∀ vm₁, s.WarmedH vm₁ → Pre ⟨T.setVm vm₁, locs, cells, slots⟩ (Value.ref b :: argsL).toArray) :
    (∃ (v : Option Value) (vm₁ : Vm) (B : Pt), s.WarmedH vm₁ ∧ Stand p l e R s m args below meth c B.U B.locs B.cells B.slots ∧ Post ⟨T.setVm vm₁, locs, cells, slots⟩ (Value.ref b :: argsL).toArray v B ∧
      ∀ target, Steps p.tables e below (B.U.setTop { g with pc := g.pc + 3, stack := v.toList ++ rest }) target → Steps p.tables e below (T.setTop g) target) ∨
    (∃ (q : Addr) (vm₁ : Vm) (B : Pt), s.WarmedH vm₁ ∧ Stand p l e R s m args below meth c B.U B.locs B.cells B.slots ∧ PostX ⟨T.setVm vm₁, locs, cells, slots⟩ (Value.ref b :: argsL).toArray q B ∧
      Steps p.tables e below (T.setTop g) ((B.U.setTop { g with stack := rest }).pushFrame (.throwing q))) := by
  obtain ⟨mk, methM, hnamed, hmethM, hstM, habM⟩ := Cond.instanceMethod_spec hinst
  obtain ⟨m8, methM', cM, hn8, hmethM', -, -, -, -, -, -, hsigM⟩ := Cond.codeWith_spec hcode
  cases Option.some.inj (hn8.symm.trans hnamed)
  cases hmethM.symm.trans hmethM'
  obtain ⟨c2, r2, m2, q1, q2, q3, q4, kP, hkP, hkPi⟩ := Cond.selects_spec hsel
  cases hcls.symm.trans q1
  cases (State.methodFound?_of_named hnamed hy).symm.trans q2
  cases hnamed.symm.trans q3
  have hselP : selectMethod e.platform s.vm cellB.cls mk = .method mk := by rw [Launch.admits_selectMethod X.admits]; exact q4
  obtain ⟨vm₁, X₁, hstep₁⟩ := X.invokevirtual hexec hown hlink hnamed hmethM hstM hkP hkPi hy (a := b) (cell := cellB) hcell
    (fun z h => by rw [h] at hobj; cases hobj) hselP hmethM habM hkP hkPi (g := g) hg (argsL := argsL) (rest := rest) (hlen _ hsigM) hstack hdg
  rcases hK m meth c ⟨T.setVm vm₁, locs, cells, slots⟩ { g with stack := rest } (.invokevirtual index) mk (Value.ref b :: argsL).toArray X₁ hg hsize hdg hW (X₁.named hnamed) (hpre vm₁ X₁.warmed) with ⟨v, B, X', hpost, hsteps⟩ | ⟨q, B, X', hpost, hsteps⟩
  · exact Or.inl ⟨v, vm₁, B, X₁.warmed, X', hpost, fun target h => hstep₁ _ fun acts => by rw [doInvoke_state]; exact hsteps.trans h⟩
  · exact Or.inr ⟨q, vm₁, B, X₁.warmed, X', hpost, hstep₁ _ fun acts => by rw [doInvoke_state]; exact hsteps⟩
theorem vx_callSX (X : Stand p l e R s m args below meth c T locs cells slots) (hexec : p.tables.exec = Jvm.exec) {own : String} {index : Nat} {y : MethodName} {bytes : ByteArray} {maxL : Nat} {ret : Option FieldType} {hh : List (Nat × Nat × Nat × Nat)}
    (hown : s.vm.findClass own = some m.cls) (hlink : (Cond.methodLink own index y).before args s = true) (hstat : (Cond.static y).before args s = true) (hinit : (Cond.initialized y.cls).before args s = true)
    (hcode : (Cond.codeWith y bytes maxL ret hh).before args s = true) (hy : y.cls ≠ "java/lang/invoke/MethodHandle" ∧ y.cls ≠ "java/lang/invoke/VarHandle")
    {W9 : Nat} {Pre : Pt → Array Value → Prop} {Post : Pt → Array Value → Option Value → Pt → Prop} {PostX : Pt → Array Value → Addr → Pt → Prop} (hK : vx_Back l R p e below s args y 3 W9 Pre Post PostX)
    {g : JFrame} (hg : g.method = m) (hsize : g.locals.size = c.maxLocals) {argsL rest : List Value} (hlen : ∀ sig, parseMethodDescriptor y.desc = some sig → argsL.length = sig.parameters.length)
    (hstack : g.stack = argsL.reverse ++ rest) (hW : 2 * g.monitorRoom + (rest.map fun v => v.category).sum ≤ W9) (hdg : decode c.code g.pc = .ok (.invokestatic index, 3))
    (hpre : ∀ vm₁, s.WarmedH vm₁ → Pre ⟨T.setVm vm₁, locs, cells, slots⟩ argsL.toArray) :
    (∃ (v : Option Value) (vm₁ : Vm) (B : Pt), s.WarmedH vm₁ ∧ Stand p l e R s m args below meth c B.U B.locs B.cells B.slots ∧ Post ⟨T.setVm vm₁, locs, cells, slots⟩ argsL.toArray v B ∧
      ∀ target, Steps p.tables e below (B.U.setTop { g with pc := g.pc + 3, stack := v.toList ++ rest }) target → Steps p.tables e below (T.setTop g) target) ∨
    (∃ (q : Addr) (vm₁ : Vm) (B : Pt), s.WarmedH vm₁ ∧ Stand p l e R s m args below meth c B.U B.locs B.cells B.slots ∧ PostX ⟨T.setVm vm₁, locs, cells, slots⟩ argsL.toArray q B ∧
      Steps p.tables e below (T.setTop g) ((B.U.setTop { g with stack := rest }).pushFrame (.throwing q))) := by
  obtain ⟨mk, methM, cM, hnamed, hmethM, -, -, -, -, -, -, hsigM⟩ := Cond.codeWith_spec hcode
  have hstatic : methM.isStatic = true := Cond.static_spec hnamed hmethM hstat
  obtain ⟨kP, hkP, -⟩ := className_of_methodNamed hnamed
  have hinitP : kP.init = .initialized := Cond.initialized_spec (findClass_of_methodNamed hnamed) hkP hinit
  obtain ⟨vm₁, X₁, hstep₁⟩ := X.invokestatic hexec hown hlink hnamed hmethM hstatic hkP hinitP hy (g := g) hg (argsL := argsL) (rest := rest) (hlen _ hsigM) hstack hdg
  rcases hK m meth c ⟨T.setVm vm₁, locs, cells, slots⟩ { g with stack := rest } (.invokestatic index) mk argsL.toArray X₁ hg hsize hdg hW (X₁.named hnamed) (hpre vm₁ X₁.warmed) with ⟨v, B, X', hpost, hsteps⟩ | ⟨q, B, X', hpost, hsteps⟩
  · exact Or.inl ⟨v, vm₁, B, X₁.warmed, X', hpost, fun target h => hstep₁ _ fun acts => by rw [doInvoke_state]; exact hsteps.trans h⟩
  · exact Or.inr ⟨q, vm₁, B, X₁.warmed, X', hpost, hstep₁ _ fun acts => by rw [doInvoke_state]; exact hsteps⟩
theorem vx_callVW (X : Stand p l e R s m args below meth c T locs cells slots) (hexec : p.tables.exec = Jvm.exec) {own C : String} {index : Nat} {y : MethodName} {bytes : ByteArray} {maxL : Nat} {ret : Option FieldType} {hh : List (Nat × Nat × Nat × Nat)}
    (hown : s.vm.findClass own = some m.cls) (hlink : (Cond.methodLink own index y).before args s = true) (hinst : (Cond.instanceMethod y).before args s = true) (hsel : (Cond.selects C y y).before args s = true)
    (hcode : (Cond.codeWith y bytes maxL ret hh).before args s = true) (hy : y.cls ≠ "java/lang/invoke/MethodHandle" ∧ y.cls ≠ "java/lang/invoke/VarHandle")
    {W9 : Nat} {Pre : Pt → Array Value → Prop} {Post : Pt → Array Value → Option Value → Pt → Prop} (hK : Back l R p e below s args y 3 W9 Pre Post)
    {b : Addr} {cellB : Cell} (hcell : T.heap[b]? = some cellB) (hobj : cellB.vm.isStatics = false) (hcls : s.vm.findClass C = some cellB.cls)
    {g : JFrame} (hg : g.method = m) (hsize : g.locals.size = c.maxLocals) {argsL rest : List Value} (hlen : ∀ sig, parseMethodDescriptor y.desc = some sig → argsL.length = sig.parameters.length)
    (hstack : g.stack = argsL.reverse ++ .ref b :: rest) (hW : 2 * g.monitorRoom + (rest.map fun v => v.category).sum ≤ W9) (hdg : decode c.code g.pc = .ok (.invokevirtual index, 3))
    (hpre : ∀ vm₁, s.WarmedH vm₁ → Pre ⟨T.setVm vm₁, locs, cells, slots⟩ (Value.ref b :: argsL).toArray) :
    ∃ (v : Option Value) (vm₁ : Vm) (B : Pt), s.WarmedH vm₁ ∧ Stand p l e R s m args below meth c B.U B.locs B.cells B.slots ∧ Post ⟨T.setVm vm₁, locs, cells, slots⟩ (Value.ref b :: argsL).toArray v B ∧
      ∀ target, Steps p.tables e below (B.U.setTop { g with pc := g.pc + 3, stack := v.toList ++ rest }) target → Steps p.tables e below (T.setTop g) target := by
  obtain ⟨mk, methM, hnamed, hmethM, hstM, habM⟩ := Cond.instanceMethod_spec hinst
  obtain ⟨m8, methM', cM, hn8, hmethM', -, -, -, -, -, -, hsigM⟩ := Cond.codeWith_spec hcode
  cases Option.some.inj (hn8.symm.trans hnamed)
  cases hmethM.symm.trans hmethM'
  obtain ⟨c2, r2, m2, q1, q2, q3, q4, kP, hkP, hkPi⟩ := Cond.selects_spec hsel
  cases hcls.symm.trans q1
  cases (State.methodFound?_of_named hnamed hy).symm.trans q2
  cases hnamed.symm.trans q3
  have hselP : selectMethod e.platform s.vm cellB.cls mk = .method mk := by rw [Launch.admits_selectMethod X.admits]; exact q4
  obtain ⟨vm₁, X₁, hstep₁⟩ := X.invokevirtual hexec hown hlink hnamed hmethM hstM hkP hkPi hy (a := b) (cell := cellB) hcell
    (fun z h => by rw [h] at hobj; cases hobj) hselP hmethM habM hkP hkPi (g := g) hg (argsL := argsL) (rest := rest) (hlen _ hsigM) hstack hdg
  obtain ⟨v, B, X', hpost, hsteps⟩ := hK m meth c ⟨T.setVm vm₁, locs, cells, slots⟩ { g with stack := rest } (.invokevirtual index) mk (Value.ref b :: argsL).toArray X₁ hg hsize hdg hW (X₁.named hnamed) (hpre vm₁ X₁.warmed)
  exact ⟨v, vm₁, B, X₁.warmed, X', hpost, fun target h => hstep₁ _ fun acts => by rw [doInvoke_state]; exact hsteps.trans h⟩
abbrev vx_CVW (R : Room) (s : State) (args : Array Value) (own C : String) (index : Nat) (y : MethodName) (bytes : ByteArray) (maxL : Nat) (ret : Option FieldType) (hh : List (Nat × Nat × Nat × Nat)) (ws : List Cond) (rm : Room) (mc ms n : Nat) : Prop :=
  (rm.cells = mc ∧ rm.slots = ms ∧ rm.frames + 1 ≤ R.frames ∧ 8 + (maxL + 11) + rm.locals ≤ R.locals ∧ (∀ w ∈ ws, ∀ (a' : Array Value) (U : State), s.WarmedH U.vm → w.before a' U = true) ∧ Cond.codeWith y bytes maxL ret hh ∈ ws) ∧
  (Cond.codeWith y bytes maxL ret hh).before args s = true ∧ (Cond.initialized y.cls).before args s = true ∧ (y.cls ≠ "java/lang/invoke/MethodHandle" ∧ y.cls ≠ "java/lang/invoke/VarHandle") ∧
  (∀ sig, parseMethodDescriptor y.desc = some sig → n = sig.parameters.length) ∧ (Cond.methodLink own index y).before args s = true ∧ (Cond.instanceMethod y).before args s = true ∧ (Cond.selects C y y).before args s = true
theorem vx_cwVW {own C : String} {index maxL mc ms : Nat} {y : MethodName} {bytes : ByteArray} {ret : Option FieldType} {hh : List (Nat × Nat × Nat × Nat)} {Ts ws ws' : List Cond} {rm : Room} (n : Nat) (ht : ∀ w ∈ Ts, w.before args s = true) (hT : GoodIn Ts (wsV own index C y ws)) (hw : ws = Cond.codeWith y bytes maxL ret hh :: ws') (hrc : rm.cells = mc) (hrs : rm.slots = ms)
    (hd : y.cls = C ∧ y.cls ≠ "java/lang/invoke/MethodHandle" ∧ y.cls ≠ "java/lang/invoke/VarHandle" ∧ (parseMethodDescriptor y.desc).map (fun d => d.parameters.length) = some n) (hR : rm.frames + 1 ≤ R.frames ∧ 8 + (maxL + 11) + rm.locals ≤ R.locals) :
    vx_CVW R s args own C index y bytes maxL ret hh ws rm mc ms n := by
  obtain ⟨hC, hd⟩ := hd
  subst hC
  have ok : ∀ w ∈ wsV own index y.cls y ws, w.before args s = true := fun w h => ht w (hT w h).1
  have hG : GoodIn Ts ws := fun w h => hT w (by unfold wsV; exact List.mem_append_right _ h)
  have hc : Cond.codeWith y bytes maxL ret hh ∈ ws := by rw [hw]; exact List.mem_cons_self
  refine ⟨⟨hrc, hrs, hR.1, hR.2, pay_in ht hG, hc⟩, ht _ (hG _ hc).1, ok _ (by simp [wsV]), ⟨hd.1, hd.2.1⟩, fun sig h => ?_, ok _ (by simp [wsV]), ok _ (by simp [wsV]), ok _ (by simp [wsV])⟩
  have h2 := hd.2.2
  rw [h] at h2
  exact (Option.some.inj h2).symm
theorem vx_runVW {y : MethodName} {bytes cc : ByteArray} {maxL nL mc ms n index : Nat} {ret : Option FieldType} {hh : List (Nat × Nat × Nat × Nat)} {ws : List Cond} {rm : Room} {Pc : Array Value → State → Prop} {Qc : Array Value → State → Outcome → State → Prop} {free : Addr → Prop} {Ts : List Cond} {own C : String} {b : Addr} {As rest : List Value} {g : JFrame}
    (S : CallFix p m c cc nL s args Ts own) (hM : Met l y ws rm Pc Qc mc ms free) (cw : vx_CVW R s args own C index y bytes maxL ret hh ws rm mc ms n) (hp : PreV s H C b Pc As)
    (hg : g.method = m) (hn : As.length = n) (hsize : g.locals.size = nL) (hstack : g.stack = As.reverse ++ .ref b :: rest) (hW : 2 * g.monitorRoom + (rest.map fun v => v.category).sum ≤ 8) (hdg : decode cc g.pc = .ok (.invokevirtual index, 3)) (hf : cells + mc ≤ R.cells ∧ slots + ms ≤ R.slots) :
    va_Run p l e R s m args below meth c H locs cells slots mc ms g rest (Qc (Value.ref b :: As).toArray) free := by
  obtain ⟨⟨hrc, hrs, hfr, hlo, hws, hcw⟩, hcode, hini, hy, hlen, hl, hin, hse⟩ := cw
  have hK : Back l R p e below s args y 3 8 (PreOf R mc ms Pc) (PostOf Qc mc ms free) := va_backW (hh := hh) (bytes := bytes) (maxL := maxL) (ret := ret) hM hp.1 hrc hrs hfr hlo hws hcw (fun a' U hW => word_at hW (Or.inl (by first | rfl | simp [Cond.onTables, Cond.keeps, Cond.steady])) hini)
  obtain ⟨hx, hb, hml, ho, -⟩ := S
  obtain ⟨-, ⟨cellB, hcB, hoB, hclB⟩, hPc⟩ := hp
  intro T hT X
  obtain ⟨v, vm₁, ⟨U', l2, c2, s2⟩, hW₁, X', ⟨g', mk, t, L, e1, e2, hq, h1, hL, h2, h3⟩, st⟩ := vx_callVW X hx (C := C) (hh := hh) (bytes := bytes) (maxL := maxL) (ret := ret) ho hl hin hse hcode hy hK (by rw [hT]; exact hcB) hoB hclB hg (hsize.trans hml.symm) (argsL := As) (rest := rest) (fun sig h => hn.trans (hlen sig h)) hstack hW (by rw [hb]; exact hdg)
    (fun vm₁ hW₁ => ⟨hf.1, hf.2, hPc (T.setVm vm₁) hT hW₁⟩)
  dsimp only [Pt.U, Pt.locs, Pt.cells, Pt.slots] at X' e1 e2 h1 h2 h3 st
  subst h1; subst h2; subst h3
  exact ⟨v, (T.setVm vm₁).calling g' mk (Value.ref b :: As).toArray, t, U', L, hT, X', hL, e1, e2, hq, st⟩
section
variable {y : MethodName} {bytes cc : ByteArray} {maxL nL mc ms n index : Nat} {ret : Option FieldType} {ws : List Cond} {rm : Room} {Pc : Array Value → State → Prop} {Qc : Array Value → State → Outcome → State → Prop} {XC : String → State → State → Prop} {free : Addr → Prop} {Ts : List Cond} {own C : String} {b : Addr} {As rest : List Value} {g : JFrame}
theorem vx_runVX {hh : List (Nat × Nat × Nat × Nat)} (S : CallFix p m c cc nL s args Ts own) (hM : vx_Met l y ws rm Pc Qc XC mc ms free) (cw : vx_CVW R s args own C index y bytes maxL ret hh ws rm mc ms n) (hp : PreV s H C b Pc As)
    (hg : g.method = m) (hn : As.length = n) (hsize : g.locals.size = nL) (hstack : g.stack = As.reverse ++ .ref b :: rest) (hW : 2 * g.monitorRoom + (rest.map fun v => v.category).sum ≤ 8) (hdg : decode cc g.pc = .ok (.invokevirtual index, 3)) (hf : cells + mc ≤ R.cells ∧ slots + ms ≤ R.slots) :
    vx_Run p l e R s m args below meth c H locs cells slots mc ms g rest (Qc (Value.ref b :: As).toArray) XC free := by
  obtain ⟨⟨hrc, hrs, hfr, hlo, hws, hcw⟩, hcode, hini, hy, hlen, hl, hin, hse⟩ := cw
  have hK : vx_Back l R p e below s args y 3 8 (PreOf R mc ms Pc) (PostOf Qc mc ms free) (vx_Post XC mc ms free) := vx_backW (hh := hh) (bytes := bytes) (maxL := maxL) (ret := ret) hM hp.1 hrc hrs hfr hlo hws hcw (fun a' U hW => word_at hW (Or.inl (by first | rfl | simp [Cond.onTables, Cond.keeps, Cond.steady])) hini)
  obtain ⟨hx, hb, hml, ho, -⟩ := S
  obtain ⟨-, ⟨cellB, hcB, hoB, hclB⟩, hPc⟩ := hp
  intro T hT X
  rcases vx_callVX X hx (C := C) (hh := hh) (bytes := bytes) (maxL := maxL) (ret := ret) ho hl hin hse hcode hy hK (by rw [hT]; exact hcB) hoB hclB hg (hsize.trans hml.symm) (argsL := As) (rest := rest) (fun sig h => hn.trans (hlen sig h)) hstack hW (by rw [hb]; exact hdg)
    (fun vm₁ hW₁ => ⟨hf.1, hf.2, hPc (T.setVm vm₁) hT hW₁⟩) with ⟨v, vm₁, ⟨U', l2, c2, s2⟩, hW₁, X', ⟨g', mk, t, L, e1, e2, hq, h1, hL, h2, h3⟩, st⟩ | ⟨q, vm₁, ⟨U', l2, c2, s2⟩, hW₁, X', ⟨g', mk, t, L, E, ce, e1, e2, hq, hce, hcv, hcl, h1, hL, h2, h3⟩, st⟩
  · dsimp only [Pt.U, Pt.locs, Pt.cells, Pt.slots] at X' e1 e2 h1 h2 h3 st
    subst h1; subst h2; subst h3
    exact Or.inl ⟨v, (T.setVm vm₁).calling g' mk (Value.ref b :: As).toArray, t, U', L, hT, X', hL, e1, e2, hq, st⟩
  · dsimp only [Pt.U, Pt.locs, Pt.cells, Pt.slots] at X' e1 e2 h1 h2 h3 st hcl
    subst h1; subst h2; subst h3
    exact Or.inr ⟨q, (T.setVm vm₁).calling g' mk (Value.ref b :: As).toArray, t, U', L, E, ce, hT, X', hL, e1, e2, hq, hce, hcv, vx_cls hW₁ hcl, st⟩
theorem vx_runSX {hh : List (Nat × Nat × Nat × Nat)} (S : CallFix p m c cc nL s args Ts own) (hM : vx_Met l y ws rm Pc Qc XC mc ms free) (cw : vx_CSW R s args own index y bytes maxL ret hh ws rm mc ms n) (hp : PreS s H Pc As)
    (hg : g.method = m) (hn : As.length = n) (hsize : g.locals.size = nL) (hstack : g.stack = As.reverse ++ rest) (hW : 2 * g.monitorRoom + (rest.map fun v => v.category).sum ≤ 8) (hdg : decode cc g.pc = .ok (.invokestatic index, 3)) (hf : cells + mc ≤ R.cells ∧ slots + ms ≤ R.slots) :
    vx_Run p l e R s m args below meth c H locs cells slots mc ms g rest (Qc As.toArray) XC free := by
  obtain ⟨⟨hrc, hrs, hfr, hlo, hws, hcw⟩, hcode, hini, hy, hlen, hl, hstt⟩ := cw
  have hK : vx_Back l R p e below s args y 3 8 (PreOf R mc ms Pc) (PostOf Qc mc ms free) (vx_Post XC mc ms free) := vx_backW (hh := hh) (bytes := bytes) (maxL := maxL) (ret := ret) hM hp.1 hrc hrs hfr hlo hws hcw (fun a' U hW => word_at hW (Or.inl (by first | rfl | simp [Cond.onTables, Cond.keeps, Cond.steady])) hini)
  obtain ⟨hx, hb, hml, ho, -⟩ := S
  intro T hT X
  rcases vx_callSX X hx (hh := hh) (bytes := bytes) (maxL := maxL) (ret := ret) ho hl hstt hini hcode hy hK hg (hsize.trans hml.symm) (argsL := As) (rest := rest) (fun sig h => hn.trans (hlen sig h)) hstack hW (by rw [hb]; exact hdg)
    (fun vm₁ hW₁ => ⟨hf.1, hf.2, hp.2 (T.setVm vm₁) hT hW₁⟩) with ⟨v, vm₁, ⟨U', l2, c2, s2⟩, hW₁, X', ⟨g', mk, t, L, e1, e2, hq, h1, hL, h2, h3⟩, st⟩ | ⟨q, vm₁, ⟨U', l2, c2, s2⟩, hW₁, X', ⟨g', mk, t, L, E, ce, e1, e2, hq, hce, hcv, hcl, h1, hL, h2, h3⟩, st⟩
  · dsimp only [Pt.U, Pt.locs, Pt.cells, Pt.slots] at X' e1 e2 h1 h2 h3 st
    subst h1; subst h2; subst h3
    exact Or.inl ⟨v, (T.setVm vm₁).calling g' mk As.toArray, t, U', L, hT, X', hL, e1, e2, hq, st⟩
  · dsimp only [Pt.U, Pt.locs, Pt.cells, Pt.slots] at X' e1 e2 h1 h2 h3 st hcl
    subst h1; subst h2; subst h3
    exact Or.inr ⟨q, (T.setVm vm₁).calling g' mk As.toArray, t, U', L, E, ce, hT, X', hL, e1, e2, hq, hce, hcv, vx_cls hW₁ hcl, st⟩
end
end VXH
theorem vx_ofWH {l : Launch} {y : MethodName} {ws ws' : List Cond} {rm : Room} {Pc : Array Value → State → Prop} {Qc : Array Value → State → Outcome → State → Prop} {XC : String → State → State → Prop} {mc ms : Nat} {free : Addr → Prop} {cc : ByteArray} {maxL : Nat} {ret : Option FieldType} {hh : List (Nat × Nat × Nat × Nat)}
    (hy : plainName y.cls = true) (hw : ws = Cond.codeWith y cc maxL ret hh :: ws')
    (body : ∀ p e s m args below meth c s₁, BodyLoose p l y (headSpec ws rm) cc maxL ret e s m args below meth c s₁ → c.maxLocals = maxL → Pc args s →
      W p l e (headSpec ws rm).room s m args below meth c s.heap [] 0 0 (vx_MQ below Qc XC args s mc ms free) (entryFrame m args maxL)) : vx_Met l y ws rm Pc Qc XC mc ms free := by
  refine MetFree.of_bodyS (code := cc) (maxLocals := maxL) (ret := ret) hy ?_ ?_
  · intro args s m h hn
    obtain ⟨m9, meth, c, hn9, h1, h2, h3, h4, -, h5, h6, -⟩ := Cond.codeWith_spec (atoms_spec (ws := ws) h _ (by rw [hw]; exact List.mem_cons_self))
    cases hn.symm.trans hn9
    exact ⟨meth, c, h1, h2, h3, h4, h5, h6⟩
  · intro p e s m args below meth c s₁ B hml hP _
    have hh0 : s₁.heap = s.heap := by rw [B.state]; rfl
    obtain ⟨t, a1, o, b1, b2, b3⟩ := body p e s m args below meth c s₁ B hml hP s₁ hh0 (Stand.of_body B)
    exact ⟨t, o, a1, b1, b2, b3⟩
/-! ===== END ===== -/

/-! ===== BEGIN printed: names, fields, word lists, decode rows ===== -/
def RX0 : String := "OddsSampling"
def TX0 : u_T := fun k => match k with
  | 0 => ("OddsSampling", "ups", "[J", true)
  | 1 => ("OddsSampling", "downs", "[J", true)
  | 2 => ("OddsSampling", "lowerWeights", "[J", true)
  | 3 => ("OddsSampling", "upperWeights", "[J", true)
  | 4 => ("OddsSampling", "answers", "[J", true)
  | 5 => ("OddsSampling", "factCount", "I", false)
  | 6 => ("OddsSampling", "questionCount", "I", false)
  | _ => ("OddsSampling", "lastSeed", "J", false)
def tyX0 : Nat → FieldType := fun k => match k with
  | 0 => .array .long
  | 1 => .array .long
  | 2 => .array .long
  | 3 => .array .long
  | 4 => .array .long
  | 5 => .int
  | 6 => .int
  | _ => .long
abbrev wsX00 : List Cond := u_ws RX0 TX0 8
theorem nmX0 : ∀ a, a < 8 → ∀ b, b < 8 → a ≠ b → (TX0 a).2.1 ≠ (TX0 b).2.1 := by decide +kernel
theorem tyX0_ok : ∀ k, k < 8 → parseFieldDescriptor (TX0 k).2.2.1 = some (tyX0 k) := by decide +kernel
abbrev cX0_init : ByteArray := prog_1_method_1_code
def yX0_init : MethodName := ⟨RX0, "<init>", "()V"⟩
abbrev cX0_fact : ByteArray := prog_1_method_2_code
def yX0_fact : MethodName := ⟨RX0, "fact", "(II)I"⟩
abbrev cX0_odds : ByteArray := prog_1_method_3_code
def yX0_odds : MethodName := ⟨RX0, "odds", "(III)I"⟩
abbrev cX0_set : ByteArray := prog_1_method_4_code
def yX0_set : MethodName := ⟨RX0, "set", "(II)I"⟩
abbrev cX0_join : ByteArray := prog_1_method_5_code
def yX0_join : MethodName := ⟨RX0, "join", "(III)I"⟩
abbrev cX0_some : ByteArray := prog_1_method_6_code
def yX0_some : MethodName := ⟨RX0, "some", "(III)I"⟩
abbrev cX0_holds : ByteArray := prog_1_method_7_code
def yX0_holds : MethodName := ⟨RX0, "holds", "(II)I"⟩
abbrev cX0_chance : ByteArray := prog_1_method_8_code
def yX0_chance : MethodName := ⟨RX0, "chance", "(II)J"⟩
abbrev cX0_real : ByteArray := prog_1_method_9_code
def yX0_real : MethodName := ⟨RX0, "real", "(I)D"⟩
abbrev cX0_given : ByteArray := prog_1_method_10_code
def yX0_given : MethodName := ⟨RX0, "given", "(II)J"⟩
abbrev cX0_influence : ByteArray := prog_1_method_11_code
def yX0_influence : MethodName := ⟨RX0, "influence", "(III)J"⟩
abbrev cX0_hangs : ByteArray := prog_1_method_12_code
def yX0_hangs : MethodName := ⟨RX0, "hangs", "(I)I"⟩
abbrev cX0_likeliest : ByteArray := prog_1_method_13_code
def yX0_likeliest : MethodName := ⟨RX0, "likeliest", "(I)I"⟩
abbrev cX0_weight : ByteArray := prog_1_method_14_code
def yX0_weight : MethodName := ⟨RX0, "weight", "(I)J"⟩
abbrev cX0_worlds : ByteArray := prog_1_method_15_code
def yX0_worlds : MethodName := ⟨RX0, "worlds", "(I)I"⟩
abbrev cX0_same : ByteArray := prog_1_method_16_code
def yX0_same : MethodName := ⟨RX0, "same", "(II)I"⟩
abbrev cX0_sample : ByteArray := prog_1_method_17_code
def yX0_sample : MethodName := ⟨RX0, "sample", "(IJI)I"⟩
abbrev cX0_seed : ByteArray := prog_1_method_18_code
def yX0_seed : MethodName := ⟨RX0, "seed", "()J"⟩
abbrev cX0_questions : ByteArray := prog_1_method_19_code
def yX0_questions : MethodName := ⟨RX0, "questions", "()I"⟩
abbrev cX0_areOdds : ByteArray := prog_1_method_20_code
def yX0_areOdds : MethodName := ⟨RX0, "areOdds", "(II)Z"⟩
abbrev cX0_isPart : ByteArray := prog_1_method_21_code
def yX0_isPart : MethodName := ⟨RX0, "isPart", "(I)Z"⟩
abbrev cX0_isFact : ByteArray := prog_1_method_22_code
def yX0_isFact : MethodName := ⟨RX0, "isFact", "(I)Z"⟩
abbrev cX0_areFacts : ByteArray := prog_1_method_23_code
def yX0_areFacts : MethodName := ⟨RX0, "areFacts", "(I)Z"⟩
abbrev cX0_isQuestion : ByteArray := prog_1_method_24_code
def yX0_isQuestion : MethodName := ⟨RX0, "isQuestion", "(I)Z"⟩
abbrev cX0_isFull : ByteArray := prog_1_method_25_code
def yX0_isFull : MethodName := ⟨RX0, "isFull", "()Z"⟩
abbrev cX0_allFacts : ByteArray := prog_1_method_26_code
def yX0_allFacts : MethodName := ⟨RX0, "allFacts", "()I"⟩
abbrev cX0_at : ByteArray := prog_1_method_27_code
def yX0_at : MethodName := ⟨RX0, "at", "([JI)J"⟩
abbrev cX0_put : ByteArray := prog_1_method_28_code
def yX0_put : MethodName := ⟨RX0, "put", "([JIJ)V"⟩
abbrev cX0_blockOf : ByteArray := prog_1_method_29_code
def yX0_blockOf : MethodName := ⟨RX0, "blockOf", "(II)J"⟩
abbrev cX0_isTrue : ByteArray := prog_1_method_30_code
def yX0_isTrue : MethodName := ⟨RX0, "isTrue", "(II)Z"⟩
abbrev cX0_isBitOn : ByteArray := prog_1_method_31_code
def yX0_isBitOn : MethodName := ⟨RX0, "isBitOn", "(JI)Z"⟩
abbrev cX0_putNextBlock : ByteArray := prog_1_method_32_code
def yX0_putNextBlock : MethodName := ⟨RX0, "putNextBlock", "(IJ)V"⟩
abbrev cX0_keepNext : ByteArray := prog_1_method_33_code
def yX0_keepNext : MethodName := ⟨RX0, "keepNext", "()I"⟩
abbrev cX0_setBlock : ByteArray := prog_1_method_34_code
def yX0_setBlock : MethodName := ⟨RX0, "setBlock", "(III)J"⟩
abbrev cX0_someBlock : ByteArray := prog_1_method_35_code
def yX0_someBlock : MethodName := ⟨RX0, "someBlock", "(IIII)J"⟩
abbrev cX0_joined : ByteArray := prog_1_method_36_code
def yX0_joined : MethodName := ⟨RX0, "joined", "(IJJ)J"⟩
abbrev cX0_hangsOn : ByteArray := prog_1_method_37_code
def yX0_hangsOn : MethodName := ⟨RX0, "hangsOn", "(II)Z"⟩
abbrev cX0_changesWith : ByteArray := prog_1_method_38_code
def yX0_changesWith : MethodName := ⟨RX0, "changesWith", "(III)Z"⟩
abbrev cX0_putOdds : ByteArray := prog_1_method_39_code
def yX0_putOdds : MethodName := ⟨RX0, "putOdds", "(IJJ)V"⟩
abbrev cX0_weigh : ByteArray := prog_1_method_40_code
def yX0_weigh : MethodName := ⟨RX0, "weigh", "()V"⟩
abbrev cX0_weighHalf : ByteArray := prog_1_method_41_code
def yX0_weighHalf : MethodName := ⟨RX0, "weighHalf", "([JI)V"⟩
abbrev cX0_weightOf : ByteArray := prog_1_method_42_code
def yX0_weightOf : MethodName := ⟨RX0, "weightOf", "(I)J"⟩
abbrev cX0_sumOfBoth : ByteArray := prog_1_method_43_code
def yX0_sumOfBoth : MethodName := ⟨RX0, "sumOfBoth", "(II)J"⟩
abbrev cX0_lowerSum : ByteArray := prog_1_method_44_code
def yX0_lowerSum : MethodName := ⟨RX0, "lowerSum", "(J)J"⟩
abbrev cX0_sumWhenSurely : ByteArray := prog_1_method_45_code
def yX0_sumWhenSurely : MethodName := ⟨RX0, "sumWhenSurely", "(III)J"⟩
abbrev cX0_allBut : ByteArray := prog_1_method_46_code
def yX0_allBut : MethodName := ⟨RX0, "allBut", "(I)J"⟩
abbrev cX0_likeliestWorld : ByteArray := prog_1_method_47_code
def yX0_likeliestWorld : MethodName := ⟨RX0, "likeliestWorld", "(I)I"⟩
abbrev cX0_lowestPart : ByteArray := prog_1_method_48_code
def yX0_lowestPart : MethodName := ⟨RX0, "lowestPart", "(JJI)J"⟩
abbrev cX0_greatestDivisor : ByteArray := prog_1_method_49_code
def yX0_greatestDivisor : MethodName := ⟨RX0, "greatestDivisor", "(JJ)J"⟩
abbrev cX0_drawWorld : ByteArray := prog_1_method_50_code
def yX0_drawWorld : MethodName := ⟨RX0, "drawWorld", "()I"⟩
abbrev cX0_draw : ByteArray := prog_1_method_51_code
def yX0_draw : MethodName := ⟨RX0, "draw", "()J"⟩
def RX1 : String := "OddsSamplingModel"
def TX1 : u_T := fun k => match k with
  | 0 => ("OddsSamplingModel", "ups", "[I", true)
  | 1 => ("OddsSamplingModel", "downs", "[I", true)
  | 2 => ("OddsSamplingModel", "facts", "I", false)
  | 3 => ("OddsSamplingModel", "truths", "[Z", true)
  | 4 => ("OddsSamplingModel", "questions", "I", false)
  | 5 => ("OddsSamplingModel", "seed", "J", false)
  | _ => ("OddsSamplingModel", "thrown", "I", false)
def tyX1 : Nat → FieldType := fun k => match k with
  | 0 => .array .int
  | 1 => .array .int
  | 2 => .int
  | 3 => .array .boolean
  | 4 => .int
  | 5 => .long
  | _ => .int
abbrev wsX10 : List Cond := u_ws RX1 TX1 7
theorem nmX1 : ∀ a, a < 7 → ∀ b, b < 7 → a ≠ b → (TX1 a).2.1 ≠ (TX1 b).2.1 := by decide +kernel
theorem tyX1_ok : ∀ k, k < 7 → parseFieldDescriptor (TX1 k).2.2.1 = some (tyX1 k) := by decide +kernel
abbrev cX1_init : ByteArray := prog_3_method_1_code
def yX1_init : MethodName := ⟨RX1, "<init>", "()V"⟩
abbrev cX1_thrown : ByteArray := prog_3_method_2_code
def yX1_thrown : MethodName := ⟨RX1, "thrown", "()I"⟩
abbrev cX1_areOdds : ByteArray := prog_3_method_3_code
def yX1_areOdds : MethodName := ⟨RX1, "areOdds", "(II)Z"⟩
abbrev cX1_isQuestion : ByteArray := prog_3_method_4_code
def yX1_isQuestion : MethodName := ⟨RX1, "isQuestion", "(I)Z"⟩
abbrev cX1_areFacts : ByteArray := prog_3_method_5_code
def yX1_areFacts : MethodName := ⟨RX1, "areFacts", "(I)Z"⟩
abbrev cX1_fact : ByteArray := prog_3_method_6_code
def yX1_fact : MethodName := ⟨RX1, "fact", "(II)I"⟩
abbrev cX1_odds : ByteArray := prog_3_method_7_code
def yX1_odds : MethodName := ⟨RX1, "odds", "(III)I"⟩
abbrev cX1_isTrue : ByteArray := prog_3_method_8_code
def yX1_isTrue : MethodName := ⟨RX1, "isTrue", "(II)Z"⟩
abbrev cX1_set : ByteArray := prog_3_method_9_code
def yX1_set : MethodName := ⟨RX1, "set", "(II)I"⟩
abbrev cX1_join : ByteArray := prog_3_method_10_code
def yX1_join : MethodName := ⟨RX1, "join", "(III)I"⟩
abbrev cX1_size : ByteArray := prog_3_method_11_code
def yX1_size : MethodName := ⟨RX1, "size", "(I)I"⟩
abbrev cX1_some : ByteArray := prog_3_method_12_code
def yX1_some : MethodName := ⟨RX1, "some", "(III)I"⟩
abbrev cX1_holds : ByteArray := prog_3_method_13_code
def yX1_holds : MethodName := ⟨RX1, "holds", "(II)I"⟩
abbrev cX1_weigh : ByteArray := prog_3_method_14_code
def yX1_weigh : MethodName := ⟨RX1, "weigh", "(I)J"⟩
abbrev cX1_all : ByteArray := prog_3_method_15_code
def yX1_all : MethodName := ⟨RX1, "all", "()J"⟩
abbrev cX1_sum : ByteArray := prog_3_method_16_code
def yX1_sum : MethodName := ⟨RX1, "sum", "(I)J"⟩
abbrev cX1_divisor : ByteArray := prog_3_method_17_code
def yX1_divisor : MethodName := ⟨RX1, "divisor", "(JJ)J"⟩
abbrev cX1_part : ByteArray := prog_3_method_18_code
def yX1_part : MethodName := ⟨RX1, "part", "(JJI)J"⟩
abbrev cX1_chance : ByteArray := prog_3_method_19_code
def yX1_chance : MethodName := ⟨RX1, "chance", "(II)J"⟩
abbrev cX1_real : ByteArray := prog_3_method_20_code
def yX1_real : MethodName := ⟨RX1, "real", "(I)D"⟩
abbrev cX1_millionths : ByteArray := prog_3_method_21_code
def yX1_millionths : MethodName := ⟨RX1, "millionths", "(JJ)J"⟩
abbrev cX1_given : ByteArray := prog_3_method_22_code
def yX1_given : MethodName := ⟨RX1, "given", "(II)J"⟩
abbrev cX1_influence : ByteArray := prog_3_method_23_code
def yX1_influence : MethodName := ⟨RX1, "influence", "(III)J"⟩
abbrev cX1_hangs : ByteArray := prog_3_method_24_code
def yX1_hangs : MethodName := ⟨RX1, "hangs", "(I)I"⟩
abbrev cX1_best : ByteArray := prog_3_method_25_code
def yX1_best : MethodName := ⟨RX1, "best", "(I)I"⟩
abbrev cX1_likeliest : ByteArray := prog_3_method_26_code
def yX1_likeliest : MethodName := ⟨RX1, "likeliest", "(I)I"⟩
abbrev cX1_weight : ByteArray := prog_3_method_27_code
def yX1_weight : MethodName := ⟨RX1, "weight", "(I)J"⟩
abbrev cX1_worlds : ByteArray := prog_3_method_28_code
def yX1_worlds : MethodName := ⟨RX1, "worlds", "(I)I"⟩
abbrev cX1_same : ByteArray := prog_3_method_29_code
def yX1_same : MethodName := ⟨RX1, "same", "(II)I"⟩
abbrev cX1_draw : ByteArray := prog_3_method_30_code
def yX1_draw : MethodName := ⟨RX1, "draw", "()I"⟩
abbrev cX1_sample : ByteArray := prog_3_method_31_code
def yX1_sample : MethodName := ⟨RX1, "sample", "(IJI)I"⟩
abbrev cX1_seed : ByteArray := prog_3_method_32_code
def yX1_seed : MethodName := ⟨RX1, "seed", "()J"⟩
abbrev cX1_questions : ByteArray := prog_3_method_33_code
def yX1_questions : MethodName := ⟨RX1, "questions", "()I"⟩
def RJ6 : String := "java/lang/Integer"
def TJ6 : u_T := fun k => match k with
  | _ => ("", "", "", false)
def tyJ6 : Nat → FieldType := fun k => match k with
  | _ => .int
abbrev wsJ60 : List Cond := u_ws RJ6 TJ6 0
theorem nmJ6 : ∀ a, a < 0 → ∀ b, b < 0 → a ≠ b → (TJ6 a).2.1 ≠ (TJ6 b).2.1 := by decide +kernel
theorem tyJ6_ok : ∀ k, k < 0 → parseFieldDescriptor (TJ6 k).2.2.1 = some (tyJ6 k) := by decide +kernel
abbrev cJ6_bitCount_0f7a4 : ByteArray := prog_6_method_49_code
def yJ6_bitCount_0f7a4 : MethodName := ⟨RJ6, "bitCount", "(I)I"⟩
def RJ13 : String := "java/lang/Long"
def TJ13 : u_T := fun k => match k with
  | _ => ("", "", "", false)
def tyJ13 : Nat → FieldType := fun k => match k with
  | _ => .int
abbrev wsJ130 : List Cond := u_ws RJ13 TJ13 0
theorem nmJ13 : ∀ a, a < 0 → ∀ b, b < 0 → a ≠ b → (TJ13 a).2.1 ≠ (TJ13 b).2.1 := by decide +kernel
theorem tyJ13_ok : ∀ k, k < 0 → parseFieldDescriptor (TJ13 k).2.2.1 = some (tyJ13 k) := by decide +kernel
abbrev cJ13_bitCount_95d88 : ByteArray := prog_7_method_50_code
def yJ13_bitCount_95d88 : MethodName := ⟨RJ13, "bitCount", "(J)I"⟩
def RJ0 : String := "java/lang/String"
def TJ0 : u_T := fun k => match k with
  | _ => ("", "", "", false)
def tyJ0 : Nat → FieldType := fun k => match k with
  | _ => .int
abbrev wsJ00 : List Cond := u_ws RJ0 TJ0 0
theorem nmJ0 : ∀ a, a < 0 → ∀ b, b < 0 → a ≠ b → (TJ0 a).2.1 ≠ (TJ0 b).2.1 := by decide +kernel
theorem tyJ0_ok : ∀ k, k < 0 → parseFieldDescriptor (TJ0 k).2.2.1 = some (tyJ0 k) := by decide +kernel
def RL : String := "OddsSamplingLaw"
abbrev cL_given : ByteArray := method_3_code
def yL_given : MethodName := ⟨RL, "given", "(LOddsSampling;II[J)I"⟩
abbrev cL_law : ByteArray := code
def yL_law : MethodName := ⟨RL, "law", "([I)Z"⟩
def wsX0_put : List Cond := .code yX0_put cX0_put 4 none :: ([])
def wsX0_at : List Cond := .code yX0_at cX0_at 2 (some .long) :: ([])
def wsX0_weighHalf : List Cond := .code yX0_weighHalf cX0_weighHalf 12 none :: ([.fieldLink RX0 9 "OddsSampling" "ups" "[J", .fieldLink RX0 13 "OddsSampling" "downs" "[J", .methodLink RX0 36 yX0_put, .static yX0_put, .initialized RX0, .code yX0_put cX0_put 4 none, .methodLink RX0 146 yX0_at, .static yX0_at, .code yX0_at cX0_at 2 (some .long)] ++ wsX00)
def wsX0_weigh : List Cond := .code yX0_weigh cX0_weigh 1 none :: ([.fieldLink RX0 16 "OddsSampling" "lowerWeights" "[J", .fieldLink RX0 19 "OddsSampling" "upperWeights" "[J", .methodLink RX0 165 yX0_weighHalf, .instanceMethod yX0_weighHalf, .selects RX0 yX0_weighHalf yX0_weighHalf, .initialized RX0, .code yX0_weighHalf cX0_weighHalf 12 none, .fieldLink RX0 9 "OddsSampling" "ups" "[J", .fieldLink RX0 13 "OddsSampling" "downs" "[J", .methodLink RX0 36 yX0_put, .static yX0_put, .code yX0_put cX0_put 4 none, .methodLink RX0 146 yX0_at, .static yX0_at, .code yX0_at cX0_at 2 (some .long)] ++ wsX00)
def wsX0_init_r1 : List Cond := [Cond.methodLink RX0 1 objectInit, Cond.instanceMethod objectInit, Cond.code objectInit ⟨#[0xb1]⟩ 1 none, Cond.arrayClass .long, Cond.fieldLink RX0 9 "OddsSampling" "ups" "[J", Cond.fieldLink RX0 13 "OddsSampling" "downs" "[J", Cond.fieldLink RX0 16 "OddsSampling" "lowerWeights" "[J", Cond.fieldLink RX0 19 "OddsSampling" "upperWeights" "[J", Cond.fieldLink RX0 22 "OddsSampling" "answers" "[J", Cond.fieldLink RX0 25 "OddsSampling" "factCount" "I", Cond.fieldLink RX0 29 "OddsSampling" "questionCount" "I", Cond.fieldLink RX0 32 "OddsSampling" "lastSeed" "J", Cond.methodLink RX0 36 yX0_put, Cond.static yX0_put, Cond.initialized RX0, Cond.code yX0_put cX0_put 4 none, Cond.methodLink RX0 40 yX0_weigh, Cond.instanceMethod yX0_weigh, Cond.selects RX0 yX0_weigh yX0_weigh, Cond.code yX0_weigh cX0_weigh 1 none, Cond.methodLink RX0 165 yX0_weighHalf, Cond.instanceMethod yX0_weighHalf, Cond.selects RX0 yX0_weighHalf yX0_weighHalf, Cond.code yX0_weighHalf cX0_weighHalf 12 none]
def wsX0_init_r2 : List Cond := [Cond.methodLink RX0 146 yX0_at, Cond.static yX0_at, Cond.code yX0_at cX0_at 2 (some .long)]
def wsX0_init : List Cond := .code yX0_init cX0_init 2 none :: ((wsX0_init_r1 ++ wsX0_init_r2) ++ wsX00)
def wsX0_areOdds : List Cond := .code yX0_areOdds cX0_areOdds 2 (some .boolean) :: ([])
def wsX0_putOdds : List Cond := .code yX0_putOdds cX0_putOdds 6 none :: ([.fieldLink RX0 9 "OddsSampling" "ups" "[J", .fieldLink RX0 13 "OddsSampling" "downs" "[J", .methodLink RX0 36 yX0_put, .static yX0_put, .initialized RX0, .code yX0_put cX0_put 4 none, .methodLink RX0 40 yX0_weigh, .instanceMethod yX0_weigh, .selects RX0 yX0_weigh yX0_weigh, .code yX0_weigh cX0_weigh 1 none, .fieldLink RX0 16 "OddsSampling" "lowerWeights" "[J", .fieldLink RX0 19 "OddsSampling" "upperWeights" "[J", .methodLink RX0 165 yX0_weighHalf, .instanceMethod yX0_weighHalf, .selects RX0 yX0_weighHalf yX0_weighHalf, .code yX0_weighHalf cX0_weighHalf 12 none, .methodLink RX0 146 yX0_at, .static yX0_at, .code yX0_at cX0_at 2 (some .long)] ++ wsX00)
def wsX0_fact_r1 : List Cond := [Cond.fieldLink RX0 25 "OddsSampling" "factCount" "I", Cond.methodLink RX0 43 yX0_areOdds, Cond.static yX0_areOdds, Cond.initialized RX0, Cond.code yX0_areOdds cX0_areOdds 2 (some .boolean), Cond.methodLink RX0 47 yX0_putOdds, Cond.instanceMethod yX0_putOdds, Cond.selects RX0 yX0_putOdds yX0_putOdds, Cond.code yX0_putOdds cX0_putOdds 6 none, Cond.fieldLink RX0 9 "OddsSampling" "ups" "[J", Cond.fieldLink RX0 13 "OddsSampling" "downs" "[J", Cond.methodLink RX0 36 yX0_put, Cond.static yX0_put, Cond.code yX0_put cX0_put 4 none, Cond.methodLink RX0 40 yX0_weigh, Cond.instanceMethod yX0_weigh, Cond.selects RX0 yX0_weigh yX0_weigh, Cond.code yX0_weigh cX0_weigh 1 none, Cond.fieldLink RX0 16 "OddsSampling" "lowerWeights" "[J", Cond.fieldLink RX0 19 "OddsSampling" "upperWeights" "[J", Cond.methodLink RX0 165 yX0_weighHalf, Cond.instanceMethod yX0_weighHalf, Cond.selects RX0 yX0_weighHalf yX0_weighHalf, Cond.code yX0_weighHalf cX0_weighHalf 12 none]
def wsX0_fact_r2 : List Cond := [Cond.methodLink RX0 146 yX0_at, Cond.static yX0_at, Cond.code yX0_at cX0_at 2 (some .long)]
def wsX0_fact : List Cond := .code yX0_fact cX0_fact 4 (some .int) :: ((wsX0_fact_r1 ++ wsX0_fact_r2) ++ wsX00)
def wsX0_isFact : List Cond := .code yX0_isFact cX0_isFact 2 (some .boolean) :: ([.fieldLink RX0 25 "OddsSampling" "factCount" "I"] ++ wsX00)
def wsX0_odds_r1 : List Cond := [Cond.methodLink RX0 51 yX0_isFact, Cond.instanceMethod yX0_isFact, Cond.selects RX0 yX0_isFact yX0_isFact, Cond.initialized RX0, Cond.code yX0_isFact cX0_isFact 2 (some .boolean), Cond.fieldLink RX0 25 "OddsSampling" "factCount" "I", Cond.methodLink RX0 43 yX0_areOdds, Cond.static yX0_areOdds, Cond.code yX0_areOdds cX0_areOdds 2 (some .boolean), Cond.methodLink RX0 47 yX0_putOdds, Cond.instanceMethod yX0_putOdds, Cond.selects RX0 yX0_putOdds yX0_putOdds, Cond.code yX0_putOdds cX0_putOdds 6 none, Cond.fieldLink RX0 9 "OddsSampling" "ups" "[J", Cond.fieldLink RX0 13 "OddsSampling" "downs" "[J", Cond.methodLink RX0 36 yX0_put, Cond.static yX0_put, Cond.code yX0_put cX0_put 4 none, Cond.methodLink RX0 40 yX0_weigh, Cond.instanceMethod yX0_weigh, Cond.selects RX0 yX0_weigh yX0_weigh, Cond.code yX0_weigh cX0_weigh 1 none, Cond.fieldLink RX0 16 "OddsSampling" "lowerWeights" "[J", Cond.fieldLink RX0 19 "OddsSampling" "upperWeights" "[J"]
def wsX0_odds_r2 : List Cond := [Cond.methodLink RX0 165 yX0_weighHalf, Cond.instanceMethod yX0_weighHalf, Cond.selects RX0 yX0_weighHalf yX0_weighHalf, Cond.code yX0_weighHalf cX0_weighHalf 12 none, Cond.methodLink RX0 146 yX0_at, Cond.static yX0_at, Cond.code yX0_at cX0_at 2 (some .long)]
def wsX0_odds : List Cond := .code yX0_odds cX0_odds 4 (some .int) :: ((wsX0_odds_r1 ++ wsX0_odds_r2) ++ wsX00)
def wsX0_allFacts : List Cond := .code yX0_allFacts cX0_allFacts 1 (some .int) :: ([.fieldLink RX0 25 "OddsSampling" "factCount" "I"] ++ wsX00)
def wsX0_areFacts : List Cond := .code yX0_areFacts cX0_areFacts 2 (some .boolean) :: ([.methodLink RX0 89 yX0_allFacts, .instanceMethod yX0_allFacts, .selects RX0 yX0_allFacts yX0_allFacts, .initialized RX0, .code yX0_allFacts cX0_allFacts 1 (some .int), .fieldLink RX0 25 "OddsSampling" "factCount" "I"] ++ wsX00)
def wsX0_isFull : List Cond := .code yX0_isFull cX0_isFull 1 (some .boolean) :: ([.fieldLink RX0 29 "OddsSampling" "questionCount" "I"] ++ wsX00)
def wsX0_setBlock : List Cond := .code yX0_setBlock cX0_setBlock 7 (some .long) :: ([])
def wsX0_putNextBlock : List Cond := .code yX0_putNextBlock cX0_putNextBlock 4 none :: ([.fieldLink RX0 22 "OddsSampling" "answers" "[J", .fieldLink RX0 29 "OddsSampling" "questionCount" "I", .methodLink RX0 36 yX0_put, .static yX0_put, .initialized RX0, .code yX0_put cX0_put 4 none] ++ wsX00)
def wsX0_keepNext : List Cond := .code yX0_keepNext cX0_keepNext 2 (some .int) :: ([.fieldLink RX0 29 "OddsSampling" "questionCount" "I"] ++ wsX00)
def wsX0_set_r1 : List Cond := [Cond.methodLink RX0 55 yX0_areFacts, Cond.instanceMethod yX0_areFacts, Cond.selects RX0 yX0_areFacts yX0_areFacts, Cond.initialized RX0, Cond.code yX0_areFacts cX0_areFacts 2 (some .boolean), Cond.methodLink RX0 89 yX0_allFacts, Cond.instanceMethod yX0_allFacts, Cond.selects RX0 yX0_allFacts yX0_allFacts, Cond.code yX0_allFacts cX0_allFacts 1 (some .int), Cond.fieldLink RX0 25 "OddsSampling" "factCount" "I", Cond.methodLink RX0 58 yX0_isFull, Cond.instanceMethod yX0_isFull, Cond.selects RX0 yX0_isFull yX0_isFull, Cond.code yX0_isFull cX0_isFull 1 (some .boolean), Cond.fieldLink RX0 29 "OddsSampling" "questionCount" "I", Cond.methodLink RX0 62 yX0_setBlock, Cond.static yX0_setBlock, Cond.code yX0_setBlock cX0_setBlock 7 (some .long), Cond.methodLink RX0 66 yX0_putNextBlock, Cond.instanceMethod yX0_putNextBlock, Cond.selects RX0 yX0_putNextBlock yX0_putNextBlock, Cond.code yX0_putNextBlock cX0_putNextBlock 4 none, Cond.fieldLink RX0 22 "OddsSampling" "answers" "[J", Cond.methodLink RX0 36 yX0_put]
def wsX0_set_r2 : List Cond := [Cond.static yX0_put, Cond.code yX0_put cX0_put 4 none, Cond.methodLink RX0 70 yX0_keepNext, Cond.instanceMethod yX0_keepNext, Cond.selects RX0 yX0_keepNext yX0_keepNext, Cond.code yX0_keepNext cX0_keepNext 2 (some .int)]
def wsX0_set : List Cond := .code yX0_set cX0_set 4 (some .int) :: ((wsX0_set_r1 ++ wsX0_set_r2) ++ wsX00)
def wsX0_isQuestion : List Cond := .code yX0_isQuestion cX0_isQuestion 2 (some .boolean) :: ([.fieldLink RX0 29 "OddsSampling" "questionCount" "I"] ++ wsX00)
def wsX0_blockOf : List Cond := .code yX0_blockOf cX0_blockOf 3 (some .long) :: ([.fieldLink RX0 22 "OddsSampling" "answers" "[J", .methodLink RX0 74 yX0_isQuestion, .instanceMethod yX0_isQuestion, .selects RX0 yX0_isQuestion yX0_isQuestion, .initialized RX0, .code yX0_isQuestion cX0_isQuestion 2 (some .boolean), .fieldLink RX0 29 "OddsSampling" "questionCount" "I", .methodLink RX0 146 yX0_at, .static yX0_at, .code yX0_at cX0_at 2 (some .long)] ++ wsX00)
def wsX0_joined : List Cond := .code yX0_joined cX0_joined 5 (some .long) :: ([.constantLong RX0 98 (-1)])
def wsX0_join_r1 : List Cond := [Cond.methodLink RX0 74 yX0_isQuestion, Cond.instanceMethod yX0_isQuestion, Cond.selects RX0 yX0_isQuestion yX0_isQuestion, Cond.initialized RX0, Cond.code yX0_isQuestion cX0_isQuestion 2 (some .boolean), Cond.fieldLink RX0 29 "OddsSampling" "questionCount" "I", Cond.methodLink RX0 58 yX0_isFull, Cond.instanceMethod yX0_isFull, Cond.selects RX0 yX0_isFull yX0_isFull, Cond.code yX0_isFull cX0_isFull 1 (some .boolean), Cond.methodLink RX0 77 yX0_blockOf, Cond.instanceMethod yX0_blockOf, Cond.selects RX0 yX0_blockOf yX0_blockOf, Cond.code yX0_blockOf cX0_blockOf 3 (some .long), Cond.fieldLink RX0 22 "OddsSampling" "answers" "[J", Cond.methodLink RX0 146 yX0_at, Cond.static yX0_at, Cond.code yX0_at cX0_at 2 (some .long), Cond.methodLink RX0 81 yX0_joined, Cond.static yX0_joined, Cond.code yX0_joined cX0_joined 5 (some .long), Cond.constantLong RX0 98 (-1), Cond.methodLink RX0 66 yX0_putNextBlock, Cond.instanceMethod yX0_putNextBlock]
def wsX0_join_r2 : List Cond := [Cond.selects RX0 yX0_putNextBlock yX0_putNextBlock, Cond.code yX0_putNextBlock cX0_putNextBlock 4 none, Cond.methodLink RX0 36 yX0_put, Cond.static yX0_put, Cond.code yX0_put cX0_put 4 none, Cond.methodLink RX0 70 yX0_keepNext, Cond.instanceMethod yX0_keepNext, Cond.selects RX0 yX0_keepNext yX0_keepNext, Cond.code yX0_keepNext cX0_keepNext 2 (some .int)]
def wsX0_join : List Cond := .code yX0_join cX0_join 5 (some .int) :: ((wsX0_join_r1 ++ wsX0_join_r2) ++ wsX00)
def wsJ6_bitCount_0f7a4 : List Cond := .code yJ6_bitCount_0f7a4 cJ6_bitCount_0f7a4 1 (some .int) :: ([.constant RJ6 265 (1431655765), .constant RJ6 266 (858993459), .constant RJ6 267 (252645135)])
def wsX0_someBlock : List Cond := .code yX0_someBlock cX0_someBlock 8 (some .long) :: ([.methodLink RX0 154 yJ6_bitCount_0f7a4, .static yJ6_bitCount_0f7a4, .initialized RJ6, .code yJ6_bitCount_0f7a4 cJ6_bitCount_0f7a4 1 (some .int), .constant RJ6 265 (1431655765), .constant RJ6 266 (858993459), .constant RJ6 267 (252645135)])
def wsX0_some_r1 : List Cond := [Cond.methodLink RX0 55 yX0_areFacts, Cond.instanceMethod yX0_areFacts, Cond.selects RX0 yX0_areFacts yX0_areFacts, Cond.initialized RX0, Cond.code yX0_areFacts cX0_areFacts 2 (some .boolean), Cond.methodLink RX0 89 yX0_allFacts, Cond.instanceMethod yX0_allFacts, Cond.selects RX0 yX0_allFacts yX0_allFacts, Cond.code yX0_allFacts cX0_allFacts 1 (some .int), Cond.fieldLink RX0 25 "OddsSampling" "factCount" "I", Cond.methodLink RX0 58 yX0_isFull, Cond.instanceMethod yX0_isFull, Cond.selects RX0 yX0_isFull yX0_isFull, Cond.code yX0_isFull cX0_isFull 1 (some .boolean), Cond.fieldLink RX0 29 "OddsSampling" "questionCount" "I", Cond.methodLink RX0 85 yX0_someBlock, Cond.static yX0_someBlock, Cond.code yX0_someBlock cX0_someBlock 8 (some .long), Cond.methodLink RX0 154 yJ6_bitCount_0f7a4, Cond.static yJ6_bitCount_0f7a4, Cond.initialized RJ6, Cond.code yJ6_bitCount_0f7a4 cJ6_bitCount_0f7a4 1 (some .int), Cond.constant RJ6 265 (1431655765), Cond.constant RJ6 266 (858993459)]
def wsX0_some_r2 : List Cond := [Cond.constant RJ6 267 (252645135), Cond.methodLink RX0 66 yX0_putNextBlock, Cond.instanceMethod yX0_putNextBlock, Cond.selects RX0 yX0_putNextBlock yX0_putNextBlock, Cond.code yX0_putNextBlock cX0_putNextBlock 4 none, Cond.fieldLink RX0 22 "OddsSampling" "answers" "[J", Cond.methodLink RX0 36 yX0_put, Cond.static yX0_put, Cond.code yX0_put cX0_put 4 none, Cond.methodLink RX0 70 yX0_keepNext, Cond.instanceMethod yX0_keepNext, Cond.selects RX0 yX0_keepNext yX0_keepNext, Cond.code yX0_keepNext cX0_keepNext 2 (some .int)]
def wsX0_some : List Cond := .code yX0_some cX0_some 5 (some .int) :: ((wsX0_some_r1 ++ wsX0_some_r2) ++ wsX00)
def wsX0_isBitOn : List Cond := .code yX0_isBitOn cX0_isBitOn 3 (some .boolean) :: ([])
def wsX0_isTrue : List Cond := .code yX0_isTrue cX0_isTrue 5 (some .boolean) :: ([.methodLink RX0 77 yX0_blockOf, .instanceMethod yX0_blockOf, .selects RX0 yX0_blockOf yX0_blockOf, .initialized RX0, .code yX0_blockOf cX0_blockOf 3 (some .long), .fieldLink RX0 22 "OddsSampling" "answers" "[J", .methodLink RX0 74 yX0_isQuestion, .instanceMethod yX0_isQuestion, .selects RX0 yX0_isQuestion yX0_isQuestion, .code yX0_isQuestion cX0_isQuestion 2 (some .boolean), .fieldLink RX0 29 "OddsSampling" "questionCount" "I", .methodLink RX0 146 yX0_at, .static yX0_at, .code yX0_at cX0_at 2 (some .long), .methodLink RX0 150 yX0_isBitOn, .static yX0_isBitOn, .code yX0_isBitOn cX0_isBitOn 3 (some .boolean)] ++ wsX00)
def wsX0_holds_r1 : List Cond := [Cond.methodLink RX0 74 yX0_isQuestion, Cond.instanceMethod yX0_isQuestion, Cond.selects RX0 yX0_isQuestion yX0_isQuestion, Cond.initialized RX0, Cond.code yX0_isQuestion cX0_isQuestion 2 (some .boolean), Cond.fieldLink RX0 29 "OddsSampling" "questionCount" "I", Cond.methodLink RX0 89 yX0_allFacts, Cond.instanceMethod yX0_allFacts, Cond.selects RX0 yX0_allFacts yX0_allFacts, Cond.code yX0_allFacts cX0_allFacts 1 (some .int), Cond.fieldLink RX0 25 "OddsSampling" "factCount" "I", Cond.methodLink RX0 92 yX0_isTrue, Cond.instanceMethod yX0_isTrue, Cond.selects RX0 yX0_isTrue yX0_isTrue, Cond.code yX0_isTrue cX0_isTrue 5 (some .boolean), Cond.methodLink RX0 77 yX0_blockOf, Cond.instanceMethod yX0_blockOf, Cond.selects RX0 yX0_blockOf yX0_blockOf, Cond.code yX0_blockOf cX0_blockOf 3 (some .long), Cond.fieldLink RX0 22 "OddsSampling" "answers" "[J", Cond.methodLink RX0 146 yX0_at, Cond.static yX0_at, Cond.code yX0_at cX0_at 2 (some .long), Cond.methodLink RX0 150 yX0_isBitOn]
def wsX0_holds_r2 : List Cond := [Cond.static yX0_isBitOn, Cond.code yX0_isBitOn cX0_isBitOn 3 (some .boolean)]
def wsX0_holds : List Cond := .code yX0_holds cX0_holds 3 (some .int) :: ((wsX0_holds_r1 ++ wsX0_holds_r2) ++ wsX00)
def wsX0_isPart : List Cond := .code yX0_isPart cX0_isPart 1 (some .boolean) :: ([])
def wsX0_lowerSum : List Cond := .code yX0_lowerSum cX0_lowerSum 6 (some .long) :: ([.fieldLink RX0 16 "OddsSampling" "lowerWeights" "[J", .methodLink RX0 150 yX0_isBitOn, .static yX0_isBitOn, .initialized RX0, .code yX0_isBitOn cX0_isBitOn 3 (some .boolean), .methodLink RX0 146 yX0_at, .static yX0_at, .code yX0_at cX0_at 2 (some .long)] ++ wsX00)
def wsX0_sumOfBoth : List Cond := .code yX0_sumOfBoth cX0_sumOfBoth 8 (some .long) :: ([.fieldLink RX0 19 "OddsSampling" "upperWeights" "[J", .methodLink RX0 146 yX0_at, .static yX0_at, .initialized RX0, .code yX0_at cX0_at 2 (some .long), .methodLink RX0 77 yX0_blockOf, .instanceMethod yX0_blockOf, .selects RX0 yX0_blockOf yX0_blockOf, .code yX0_blockOf cX0_blockOf 3 (some .long), .fieldLink RX0 22 "OddsSampling" "answers" "[J", .methodLink RX0 74 yX0_isQuestion, .instanceMethod yX0_isQuestion, .selects RX0 yX0_isQuestion yX0_isQuestion, .code yX0_isQuestion cX0_isQuestion 2 (some .boolean), .fieldLink RX0 29 "OddsSampling" "questionCount" "I", .methodLink RX0 169 yX0_lowerSum, .instanceMethod yX0_lowerSum, .selects RX0 yX0_lowerSum yX0_lowerSum, .code yX0_lowerSum cX0_lowerSum 6 (some .long), .fieldLink RX0 16 "OddsSampling" "lowerWeights" "[J", .methodLink RX0 150 yX0_isBitOn, .static yX0_isBitOn, .code yX0_isBitOn cX0_isBitOn 3 (some .boolean)] ++ wsX00)
def wsX0_allBut : List Cond := .code yX0_allBut cX0_allBut 5 (some .long) :: ([.fieldLink RX0 25 "OddsSampling" "factCount" "I", .fieldLink RX0 13 "OddsSampling" "downs" "[J", .methodLink RX0 146 yX0_at, .static yX0_at, .initialized RX0, .code yX0_at cX0_at 2 (some .long)] ++ wsX00)
def wsX0_greatestDivisor : List Cond := .code yX0_greatestDivisor cX0_greatestDivisor 11 (some .long) :: ([])
def wsX0_lowestPart : List Cond := .code yX0_lowestPart cX0_lowestPart 7 (some .long) :: ([.methodLink RX0 173 yX0_greatestDivisor, .static yX0_greatestDivisor, .initialized RX0, .code yX0_greatestDivisor cX0_greatestDivisor 11 (some .long)])
def wsX0_chance_r1 : List Cond := [Cond.constantLong RX0 98 (-1), Cond.methodLink RX0 74 yX0_isQuestion, Cond.instanceMethod yX0_isQuestion, Cond.selects RX0 yX0_isQuestion yX0_isQuestion, Cond.initialized RX0, Cond.code yX0_isQuestion cX0_isQuestion 2 (some .boolean), Cond.fieldLink RX0 29 "OddsSampling" "questionCount" "I", Cond.methodLink RX0 95 yX0_isPart, Cond.static yX0_isPart, Cond.code yX0_isPart cX0_isPart 1 (some .boolean), Cond.methodLink RX0 100 yX0_sumOfBoth, Cond.instanceMethod yX0_sumOfBoth, Cond.selects RX0 yX0_sumOfBoth yX0_sumOfBoth, Cond.code yX0_sumOfBoth cX0_sumOfBoth 8 (some .long), Cond.fieldLink RX0 19 "OddsSampling" "upperWeights" "[J", Cond.methodLink RX0 146 yX0_at, Cond.static yX0_at, Cond.code yX0_at cX0_at 2 (some .long), Cond.methodLink RX0 77 yX0_blockOf, Cond.instanceMethod yX0_blockOf, Cond.selects RX0 yX0_blockOf yX0_blockOf, Cond.code yX0_blockOf cX0_blockOf 3 (some .long), Cond.fieldLink RX0 22 "OddsSampling" "answers" "[J", Cond.methodLink RX0 169 yX0_lowerSum]
def wsX0_chance_r2 : List Cond := [Cond.instanceMethod yX0_lowerSum, Cond.selects RX0 yX0_lowerSum yX0_lowerSum, Cond.code yX0_lowerSum cX0_lowerSum 6 (some .long), Cond.fieldLink RX0 16 "OddsSampling" "lowerWeights" "[J", Cond.methodLink RX0 150 yX0_isBitOn, Cond.static yX0_isBitOn, Cond.code yX0_isBitOn cX0_isBitOn 3 (some .boolean), Cond.methodLink RX0 103 yX0_allBut, Cond.instanceMethod yX0_allBut, Cond.selects RX0 yX0_allBut yX0_allBut, Cond.code yX0_allBut cX0_allBut 5 (some .long), Cond.fieldLink RX0 25 "OddsSampling" "factCount" "I", Cond.fieldLink RX0 13 "OddsSampling" "downs" "[J", Cond.methodLink RX0 107 yX0_lowestPart, Cond.static yX0_lowestPart, Cond.code yX0_lowestPart cX0_lowestPart 7 (some .long), Cond.methodLink RX0 173 yX0_greatestDivisor, Cond.static yX0_greatestDivisor, Cond.code yX0_greatestDivisor cX0_greatestDivisor 11 (some .long)]
def wsX0_chance : List Cond := .code yX0_chance cX0_chance 3 (some .long) :: ((wsX0_chance_r1 ++ wsX0_chance_r2) ++ wsX00)
def wsX0_real_r1 : List Cond := [Cond.constantDouble RX0 111 (13830554455654793216), Cond.methodLink RX0 74 yX0_isQuestion, Cond.instanceMethod yX0_isQuestion, Cond.selects RX0 yX0_isQuestion yX0_isQuestion, Cond.initialized RX0, Cond.code yX0_isQuestion cX0_isQuestion 2 (some .boolean), Cond.fieldLink RX0 29 "OddsSampling" "questionCount" "I", Cond.methodLink RX0 100 yX0_sumOfBoth, Cond.instanceMethod yX0_sumOfBoth, Cond.selects RX0 yX0_sumOfBoth yX0_sumOfBoth, Cond.code yX0_sumOfBoth cX0_sumOfBoth 8 (some .long), Cond.fieldLink RX0 19 "OddsSampling" "upperWeights" "[J", Cond.methodLink RX0 146 yX0_at, Cond.static yX0_at, Cond.code yX0_at cX0_at 2 (some .long), Cond.methodLink RX0 77 yX0_blockOf, Cond.instanceMethod yX0_blockOf, Cond.selects RX0 yX0_blockOf yX0_blockOf, Cond.code yX0_blockOf cX0_blockOf 3 (some .long), Cond.fieldLink RX0 22 "OddsSampling" "answers" "[J", Cond.methodLink RX0 169 yX0_lowerSum, Cond.instanceMethod yX0_lowerSum, Cond.selects RX0 yX0_lowerSum yX0_lowerSum, Cond.code yX0_lowerSum cX0_lowerSum 6 (some .long)]
def wsX0_real_r2 : List Cond := [Cond.fieldLink RX0 16 "OddsSampling" "lowerWeights" "[J", Cond.methodLink RX0 150 yX0_isBitOn, Cond.static yX0_isBitOn, Cond.code yX0_isBitOn cX0_isBitOn 3 (some .boolean), Cond.methodLink RX0 103 yX0_allBut, Cond.instanceMethod yX0_allBut, Cond.selects RX0 yX0_allBut yX0_allBut, Cond.code yX0_allBut cX0_allBut 5 (some .long), Cond.fieldLink RX0 25 "OddsSampling" "factCount" "I", Cond.fieldLink RX0 13 "OddsSampling" "downs" "[J"]
def wsX0_real : List Cond := .code yX0_real cX0_real 6 (some .double) :: ((wsX0_real_r1 ++ wsX0_real_r2) ++ wsX00)
def wsX0_given_r1 : List Cond := [Cond.classLink RX0 113 "java/lang/ArithmeticException", Cond.initialized "java/lang/ArithmeticException", Cond.constantLong RX0 120 (1000000), Cond.methodLink RX0 74 yX0_isQuestion, Cond.instanceMethod yX0_isQuestion, Cond.selects RX0 yX0_isQuestion yX0_isQuestion, Cond.initialized RX0, Cond.code yX0_isQuestion cX0_isQuestion 2 (some .boolean), Cond.fieldLink RX0 29 "OddsSampling" "questionCount" "I", Cond.methodLink RX0 100 yX0_sumOfBoth, Cond.instanceMethod yX0_sumOfBoth, Cond.selects RX0 yX0_sumOfBoth yX0_sumOfBoth, Cond.code yX0_sumOfBoth cX0_sumOfBoth 8 (some .long), Cond.fieldLink RX0 19 "OddsSampling" "upperWeights" "[J", Cond.methodLink RX0 146 yX0_at, Cond.static yX0_at, Cond.code yX0_at cX0_at 2 (some .long), Cond.methodLink RX0 77 yX0_blockOf, Cond.instanceMethod yX0_blockOf, Cond.selects RX0 yX0_blockOf yX0_blockOf, Cond.code yX0_blockOf cX0_blockOf 3 (some .long), Cond.fieldLink RX0 22 "OddsSampling" "answers" "[J", Cond.methodLink RX0 169 yX0_lowerSum, Cond.instanceMethod yX0_lowerSum]
def wsX0_given_r2 : List Cond := [Cond.selects RX0 yX0_lowerSum yX0_lowerSum, Cond.code yX0_lowerSum cX0_lowerSum 6 (some .long), Cond.fieldLink RX0 16 "OddsSampling" "lowerWeights" "[J", Cond.methodLink RX0 150 yX0_isBitOn, Cond.static yX0_isBitOn, Cond.code yX0_isBitOn cX0_isBitOn 3 (some .boolean)]
def wsX0_given : List Cond := .code yX0_given cX0_given 5 (some .long) :: ((wsX0_given_r1 ++ wsX0_given_r2) ++ wsX00 ++ (vx_atS RX0 117 "java/lang/ArithmeticException" ["java/lang/RuntimeException", "java/lang/Exception"]).filter goodWord)
def wsX0_sumWhenSurely_r1 : List Cond := [Cond.fieldLink RX0 9 "OddsSampling" "ups" "[J", Cond.fieldLink RX0 13 "OddsSampling" "downs" "[J", Cond.methodLink RX0 146 yX0_at, Cond.static yX0_at, Cond.initialized RX0, Cond.code yX0_at cX0_at 2 (some .long), Cond.methodLink RX0 47 yX0_putOdds, Cond.instanceMethod yX0_putOdds, Cond.selects RX0 yX0_putOdds yX0_putOdds, Cond.code yX0_putOdds cX0_putOdds 6 none, Cond.methodLink RX0 36 yX0_put, Cond.static yX0_put, Cond.code yX0_put cX0_put 4 none, Cond.methodLink RX0 40 yX0_weigh, Cond.instanceMethod yX0_weigh, Cond.selects RX0 yX0_weigh yX0_weigh, Cond.code yX0_weigh cX0_weigh 1 none, Cond.fieldLink RX0 16 "OddsSampling" "lowerWeights" "[J", Cond.fieldLink RX0 19 "OddsSampling" "upperWeights" "[J", Cond.methodLink RX0 165 yX0_weighHalf, Cond.instanceMethod yX0_weighHalf, Cond.selects RX0 yX0_weighHalf yX0_weighHalf, Cond.code yX0_weighHalf cX0_weighHalf 12 none, Cond.methodLink RX0 100 yX0_sumOfBoth]
def wsX0_sumWhenSurely_r2 : List Cond := [Cond.instanceMethod yX0_sumOfBoth, Cond.selects RX0 yX0_sumOfBoth yX0_sumOfBoth, Cond.code yX0_sumOfBoth cX0_sumOfBoth 8 (some .long), Cond.methodLink RX0 77 yX0_blockOf, Cond.instanceMethod yX0_blockOf, Cond.selects RX0 yX0_blockOf yX0_blockOf, Cond.code yX0_blockOf cX0_blockOf 3 (some .long), Cond.fieldLink RX0 22 "OddsSampling" "answers" "[J", Cond.methodLink RX0 74 yX0_isQuestion, Cond.instanceMethod yX0_isQuestion, Cond.selects RX0 yX0_isQuestion yX0_isQuestion, Cond.code yX0_isQuestion cX0_isQuestion 2 (some .boolean), Cond.fieldLink RX0 29 "OddsSampling" "questionCount" "I", Cond.methodLink RX0 169 yX0_lowerSum, Cond.instanceMethod yX0_lowerSum, Cond.selects RX0 yX0_lowerSum yX0_lowerSum, Cond.code yX0_lowerSum cX0_lowerSum 6 (some .long), Cond.methodLink RX0 150 yX0_isBitOn, Cond.static yX0_isBitOn, Cond.code yX0_isBitOn cX0_isBitOn 3 (some .boolean)]
def wsX0_sumWhenSurely : List Cond := .code yX0_sumWhenSurely cX0_sumWhenSurely 10 (some .long) :: ((wsX0_sumWhenSurely_r1 ++ wsX0_sumWhenSurely_r2) ++ wsX00)
def wsX0_influence_r1 : List Cond := [Cond.methodLink RX0 74 yX0_isQuestion, Cond.instanceMethod yX0_isQuestion, Cond.selects RX0 yX0_isQuestion yX0_isQuestion, Cond.initialized RX0, Cond.code yX0_isQuestion cX0_isQuestion 2 (some .boolean), Cond.fieldLink RX0 29 "OddsSampling" "questionCount" "I", Cond.methodLink RX0 51 yX0_isFact, Cond.instanceMethod yX0_isFact, Cond.selects RX0 yX0_isFact yX0_isFact, Cond.code yX0_isFact cX0_isFact 2 (some .boolean), Cond.fieldLink RX0 25 "OddsSampling" "factCount" "I", Cond.methodLink RX0 95 yX0_isPart, Cond.static yX0_isPart, Cond.code yX0_isPart cX0_isPart 1 (some .boolean), Cond.methodLink RX0 122 yX0_sumWhenSurely, Cond.instanceMethod yX0_sumWhenSurely, Cond.selects RX0 yX0_sumWhenSurely yX0_sumWhenSurely, Cond.code yX0_sumWhenSurely cX0_sumWhenSurely 10 (some .long), Cond.fieldLink RX0 9 "OddsSampling" "ups" "[J", Cond.fieldLink RX0 13 "OddsSampling" "downs" "[J", Cond.methodLink RX0 146 yX0_at, Cond.static yX0_at, Cond.code yX0_at cX0_at 2 (some .long), Cond.methodLink RX0 47 yX0_putOdds]
def wsX0_influence_r2 : List Cond := [Cond.instanceMethod yX0_putOdds, Cond.selects RX0 yX0_putOdds yX0_putOdds, Cond.code yX0_putOdds cX0_putOdds 6 none, Cond.methodLink RX0 36 yX0_put, Cond.static yX0_put, Cond.code yX0_put cX0_put 4 none, Cond.methodLink RX0 40 yX0_weigh, Cond.instanceMethod yX0_weigh, Cond.selects RX0 yX0_weigh yX0_weigh, Cond.code yX0_weigh cX0_weigh 1 none, Cond.fieldLink RX0 16 "OddsSampling" "lowerWeights" "[J", Cond.fieldLink RX0 19 "OddsSampling" "upperWeights" "[J", Cond.methodLink RX0 165 yX0_weighHalf, Cond.instanceMethod yX0_weighHalf, Cond.selects RX0 yX0_weighHalf yX0_weighHalf, Cond.code yX0_weighHalf cX0_weighHalf 12 none, Cond.methodLink RX0 100 yX0_sumOfBoth, Cond.instanceMethod yX0_sumOfBoth, Cond.selects RX0 yX0_sumOfBoth yX0_sumOfBoth, Cond.code yX0_sumOfBoth cX0_sumOfBoth 8 (some .long), Cond.methodLink RX0 77 yX0_blockOf, Cond.instanceMethod yX0_blockOf, Cond.selects RX0 yX0_blockOf yX0_blockOf, Cond.code yX0_blockOf cX0_blockOf 3 (some .long)]
def wsX0_influence_r3 : List Cond := [Cond.fieldLink RX0 22 "OddsSampling" "answers" "[J", Cond.methodLink RX0 169 yX0_lowerSum, Cond.instanceMethod yX0_lowerSum, Cond.selects RX0 yX0_lowerSum yX0_lowerSum, Cond.code yX0_lowerSum cX0_lowerSum 6 (some .long), Cond.methodLink RX0 150 yX0_isBitOn, Cond.static yX0_isBitOn, Cond.code yX0_isBitOn cX0_isBitOn 3 (some .boolean), Cond.methodLink RX0 103 yX0_allBut, Cond.instanceMethod yX0_allBut, Cond.selects RX0 yX0_allBut yX0_allBut, Cond.code yX0_allBut cX0_allBut 5 (some .long), Cond.methodLink RX0 107 yX0_lowestPart, Cond.static yX0_lowestPart, Cond.code yX0_lowestPart cX0_lowestPart 7 (some .long), Cond.methodLink RX0 173 yX0_greatestDivisor, Cond.static yX0_greatestDivisor, Cond.code yX0_greatestDivisor cX0_greatestDivisor 11 (some .long)]
def wsX0_influence : List Cond := .code yX0_influence cX0_influence 6 (some .long) :: ((wsX0_influence_r1 ++ (wsX0_influence_r2 ++ wsX0_influence_r3)) ++ wsX00)
def wsX0_changesWith : List Cond := .code yX0_changesWith cX0_changesWith 8 (some .boolean) :: ([.fieldLink RX0 162 "OddsSampling" "WITHOUT_FACT" "[J", .methodLink RX0 77 yX0_blockOf, .instanceMethod yX0_blockOf, .selects RX0 yX0_blockOf yX0_blockOf, .initialized RX0, .code yX0_blockOf cX0_blockOf 3 (some .long), .fieldLink RX0 22 "OddsSampling" "answers" "[J", .methodLink RX0 74 yX0_isQuestion, .instanceMethod yX0_isQuestion, .selects RX0 yX0_isQuestion yX0_isQuestion, .code yX0_isQuestion cX0_isQuestion 2 (some .boolean), .fieldLink RX0 29 "OddsSampling" "questionCount" "I", .methodLink RX0 146 yX0_at, .static yX0_at, .code yX0_at cX0_at 2 (some .long)] ++ wsX00)
def wsX0_hangsOn : List Cond := .code yX0_hangsOn cX0_hangsOn 4 (some .boolean) :: ([.methodLink RX0 158 yX0_changesWith, .instanceMethod yX0_changesWith, .selects RX0 yX0_changesWith yX0_changesWith, .initialized RX0, .code yX0_changesWith cX0_changesWith 8 (some .boolean), .fieldLink RX0 162 "OddsSampling" "WITHOUT_FACT" "[J", .methodLink RX0 77 yX0_blockOf, .instanceMethod yX0_blockOf, .selects RX0 yX0_blockOf yX0_blockOf, .code yX0_blockOf cX0_blockOf 3 (some .long), .fieldLink RX0 22 "OddsSampling" "answers" "[J", .methodLink RX0 74 yX0_isQuestion, .instanceMethod yX0_isQuestion, .selects RX0 yX0_isQuestion yX0_isQuestion, .code yX0_isQuestion cX0_isQuestion 2 (some .boolean), .fieldLink RX0 29 "OddsSampling" "questionCount" "I", .methodLink RX0 146 yX0_at, .static yX0_at, .code yX0_at cX0_at 2 (some .long)] ++ wsX00)
def wsX0_hangs : List Cond := .code yX0_hangs cX0_hangs 4 (some .int) :: ([.fieldLink RX0 25 "OddsSampling" "factCount" "I", .methodLink RX0 74 yX0_isQuestion, .instanceMethod yX0_isQuestion, .selects RX0 yX0_isQuestion yX0_isQuestion, .initialized RX0, .code yX0_isQuestion cX0_isQuestion 2 (some .boolean), .fieldLink RX0 29 "OddsSampling" "questionCount" "I", .methodLink RX0 125 yX0_hangsOn, .instanceMethod yX0_hangsOn, .selects RX0 yX0_hangsOn yX0_hangsOn, .code yX0_hangsOn cX0_hangsOn 4 (some .boolean), .methodLink RX0 158 yX0_changesWith, .instanceMethod yX0_changesWith, .selects RX0 yX0_changesWith yX0_changesWith, .code yX0_changesWith cX0_changesWith 8 (some .boolean), .fieldLink RX0 162 "OddsSampling" "WITHOUT_FACT" "[J", .methodLink RX0 77 yX0_blockOf, .instanceMethod yX0_blockOf, .selects RX0 yX0_blockOf yX0_blockOf, .code yX0_blockOf cX0_blockOf 3 (some .long), .fieldLink RX0 22 "OddsSampling" "answers" "[J", .methodLink RX0 146 yX0_at, .static yX0_at, .code yX0_at cX0_at 2 (some .long)] ++ wsX00)
def wsX0_weightOf : List Cond := .code yX0_weightOf cX0_weightOf 2 (some .long) :: ([.fieldLink RX0 16 "OddsSampling" "lowerWeights" "[J", .fieldLink RX0 19 "OddsSampling" "upperWeights" "[J", .methodLink RX0 146 yX0_at, .static yX0_at, .initialized RX0, .code yX0_at cX0_at 2 (some .long)] ++ wsX00)
def wsX0_likeliestWorld_r1 : List Cond := [Cond.constantLong RX0 98 (-1), Cond.fieldLink RX0 25 "OddsSampling" "factCount" "I", Cond.methodLink RX0 92 yX0_isTrue, Cond.instanceMethod yX0_isTrue, Cond.selects RX0 yX0_isTrue yX0_isTrue, Cond.initialized RX0, Cond.code yX0_isTrue cX0_isTrue 5 (some .boolean), Cond.methodLink RX0 77 yX0_blockOf, Cond.instanceMethod yX0_blockOf, Cond.selects RX0 yX0_blockOf yX0_blockOf, Cond.code yX0_blockOf cX0_blockOf 3 (some .long), Cond.fieldLink RX0 22 "OddsSampling" "answers" "[J", Cond.methodLink RX0 74 yX0_isQuestion, Cond.instanceMethod yX0_isQuestion, Cond.selects RX0 yX0_isQuestion yX0_isQuestion, Cond.code yX0_isQuestion cX0_isQuestion 2 (some .boolean), Cond.fieldLink RX0 29 "OddsSampling" "questionCount" "I", Cond.methodLink RX0 146 yX0_at, Cond.static yX0_at, Cond.code yX0_at cX0_at 2 (some .long), Cond.methodLink RX0 150 yX0_isBitOn, Cond.static yX0_isBitOn, Cond.code yX0_isBitOn cX0_isBitOn 3 (some .boolean), Cond.methodLink RX0 132 yX0_weightOf]
def wsX0_likeliestWorld_r2 : List Cond := [Cond.instanceMethod yX0_weightOf, Cond.selects RX0 yX0_weightOf yX0_weightOf, Cond.code yX0_weightOf cX0_weightOf 2 (some .long), Cond.fieldLink RX0 16 "OddsSampling" "lowerWeights" "[J", Cond.fieldLink RX0 19 "OddsSampling" "upperWeights" "[J"]
def wsX0_likeliestWorld : List Cond := .code yX0_likeliestWorld cX0_likeliestWorld 7 (some .int) :: ((wsX0_likeliestWorld_r1 ++ wsX0_likeliestWorld_r2) ++ wsX00)
def wsX0_likeliest_r1 : List Cond := [Cond.methodLink RX0 74 yX0_isQuestion, Cond.instanceMethod yX0_isQuestion, Cond.selects RX0 yX0_isQuestion yX0_isQuestion, Cond.initialized RX0, Cond.code yX0_isQuestion cX0_isQuestion 2 (some .boolean), Cond.fieldLink RX0 29 "OddsSampling" "questionCount" "I", Cond.methodLink RX0 128 yX0_likeliestWorld, Cond.instanceMethod yX0_likeliestWorld, Cond.selects RX0 yX0_likeliestWorld yX0_likeliestWorld, Cond.code yX0_likeliestWorld cX0_likeliestWorld 7 (some .int), Cond.constantLong RX0 98 (-1), Cond.fieldLink RX0 25 "OddsSampling" "factCount" "I", Cond.methodLink RX0 92 yX0_isTrue, Cond.instanceMethod yX0_isTrue, Cond.selects RX0 yX0_isTrue yX0_isTrue, Cond.code yX0_isTrue cX0_isTrue 5 (some .boolean), Cond.methodLink RX0 77 yX0_blockOf, Cond.instanceMethod yX0_blockOf, Cond.selects RX0 yX0_blockOf yX0_blockOf, Cond.code yX0_blockOf cX0_blockOf 3 (some .long), Cond.fieldLink RX0 22 "OddsSampling" "answers" "[J", Cond.methodLink RX0 146 yX0_at, Cond.static yX0_at, Cond.code yX0_at cX0_at 2 (some .long)]
def wsX0_likeliest_r2 : List Cond := [Cond.methodLink RX0 150 yX0_isBitOn, Cond.static yX0_isBitOn, Cond.code yX0_isBitOn cX0_isBitOn 3 (some .boolean), Cond.methodLink RX0 132 yX0_weightOf, Cond.instanceMethod yX0_weightOf, Cond.selects RX0 yX0_weightOf yX0_weightOf, Cond.code yX0_weightOf cX0_weightOf 2 (some .long), Cond.fieldLink RX0 16 "OddsSampling" "lowerWeights" "[J", Cond.fieldLink RX0 19 "OddsSampling" "upperWeights" "[J"]
def wsX0_likeliest : List Cond := .code yX0_likeliest cX0_likeliest 2 (some .int) :: ((wsX0_likeliest_r1 ++ wsX0_likeliest_r2) ++ wsX00)
def wsX0_weight_r1 : List Cond := [Cond.methodLink RX0 74 yX0_isQuestion, Cond.instanceMethod yX0_isQuestion, Cond.selects RX0 yX0_isQuestion yX0_isQuestion, Cond.initialized RX0, Cond.code yX0_isQuestion cX0_isQuestion 2 (some .boolean), Cond.fieldLink RX0 29 "OddsSampling" "questionCount" "I", Cond.methodLink RX0 128 yX0_likeliestWorld, Cond.instanceMethod yX0_likeliestWorld, Cond.selects RX0 yX0_likeliestWorld yX0_likeliestWorld, Cond.code yX0_likeliestWorld cX0_likeliestWorld 7 (some .int), Cond.constantLong RX0 98 (-1), Cond.fieldLink RX0 25 "OddsSampling" "factCount" "I", Cond.methodLink RX0 92 yX0_isTrue, Cond.instanceMethod yX0_isTrue, Cond.selects RX0 yX0_isTrue yX0_isTrue, Cond.code yX0_isTrue cX0_isTrue 5 (some .boolean), Cond.methodLink RX0 77 yX0_blockOf, Cond.instanceMethod yX0_blockOf, Cond.selects RX0 yX0_blockOf yX0_blockOf, Cond.code yX0_blockOf cX0_blockOf 3 (some .long), Cond.fieldLink RX0 22 "OddsSampling" "answers" "[J", Cond.methodLink RX0 146 yX0_at, Cond.static yX0_at, Cond.code yX0_at cX0_at 2 (some .long)]
def wsX0_weight_r2 : List Cond := [Cond.methodLink RX0 150 yX0_isBitOn, Cond.static yX0_isBitOn, Cond.code yX0_isBitOn cX0_isBitOn 3 (some .boolean), Cond.methodLink RX0 132 yX0_weightOf, Cond.instanceMethod yX0_weightOf, Cond.selects RX0 yX0_weightOf yX0_weightOf, Cond.code yX0_weightOf cX0_weightOf 2 (some .long), Cond.fieldLink RX0 16 "OddsSampling" "lowerWeights" "[J", Cond.fieldLink RX0 19 "OddsSampling" "upperWeights" "[J"]
def wsX0_weight : List Cond := .code yX0_weight cX0_weight 3 (some .long) :: ((wsX0_weight_r1 ++ wsX0_weight_r2) ++ wsX00)
def wsJ13_bitCount_95d88 : List Cond := .code yJ13_bitCount_95d88 cJ13_bitCount_95d88 2 (some .int) :: ([.constantLong RJ13 314 (6148914691236517205), .constantLong RJ13 316 (3689348814741910323), .constantLong RJ13 318 (1085102592571150095)])
def wsX0_worlds : List Cond := .code yX0_worlds cX0_worlds 4 (some .int) :: ([.fieldLink RX0 25 "OddsSampling" "factCount" "I", .methodLink RX0 74 yX0_isQuestion, .instanceMethod yX0_isQuestion, .selects RX0 yX0_isQuestion yX0_isQuestion, .initialized RX0, .code yX0_isQuestion cX0_isQuestion 2 (some .boolean), .fieldLink RX0 29 "OddsSampling" "questionCount" "I", .methodLink RX0 77 yX0_blockOf, .instanceMethod yX0_blockOf, .selects RX0 yX0_blockOf yX0_blockOf, .code yX0_blockOf cX0_blockOf 3 (some .long), .fieldLink RX0 22 "OddsSampling" "answers" "[J", .methodLink RX0 146 yX0_at, .static yX0_at, .code yX0_at cX0_at 2 (some .long), .methodLink RX0 135 yJ13_bitCount_95d88, .static yJ13_bitCount_95d88, .initialized RJ13, .code yJ13_bitCount_95d88 cJ13_bitCount_95d88 2 (some .int), .constantLong RJ13 314 (6148914691236517205), .constantLong RJ13 316 (3689348814741910323), .constantLong RJ13 318 (1085102592571150095)] ++ wsX00)
def wsX0_same : List Cond := .code yX0_same cX0_same 4 (some .int) :: ([.methodLink RX0 74 yX0_isQuestion, .instanceMethod yX0_isQuestion, .selects RX0 yX0_isQuestion yX0_isQuestion, .initialized RX0, .code yX0_isQuestion cX0_isQuestion 2 (some .boolean), .fieldLink RX0 29 "OddsSampling" "questionCount" "I", .methodLink RX0 77 yX0_blockOf, .instanceMethod yX0_blockOf, .selects RX0 yX0_blockOf yX0_blockOf, .code yX0_blockOf cX0_blockOf 3 (some .long), .fieldLink RX0 22 "OddsSampling" "answers" "[J", .methodLink RX0 146 yX0_at, .static yX0_at, .code yX0_at cX0_at 2 (some .long)] ++ wsX00)
def wsX0_draw : List Cond := .code yX0_draw cX0_draw 1 (some .long) :: ([.fieldLink RX0 32 "OddsSampling" "lastSeed" "J", .constantLong RX0 181 (25214903917), .constantLong RX0 183 (11), .constantLong RX0 141 (281474976710655)] ++ wsX00)
def wsX0_drawWorld : List Cond := .code yX0_drawWorld cX0_drawWorld 7 (some .int) :: ([.fieldLink RX0 25 "OddsSampling" "factCount" "I", .fieldLink RX0 13 "OddsSampling" "downs" "[J", .fieldLink RX0 9 "OddsSampling" "ups" "[J", .methodLink RX0 177 yX0_draw, .instanceMethod yX0_draw, .selects RX0 yX0_draw yX0_draw, .initialized RX0, .code yX0_draw cX0_draw 1 (some .long), .fieldLink RX0 32 "OddsSampling" "lastSeed" "J", .constantLong RX0 181 (25214903917), .constantLong RX0 183 (11), .constantLong RX0 141 (281474976710655), .methodLink RX0 146 yX0_at, .static yX0_at, .code yX0_at cX0_at 2 (some .long)] ++ wsX00)
def wsX0_sample_r1 : List Cond := [Cond.constantLong RX0 141 (281474976710655), Cond.fieldLink RX0 32 "OddsSampling" "lastSeed" "J", Cond.methodLink RX0 74 yX0_isQuestion, Cond.instanceMethod yX0_isQuestion, Cond.selects RX0 yX0_isQuestion yX0_isQuestion, Cond.initialized RX0, Cond.code yX0_isQuestion cX0_isQuestion 2 (some .boolean), Cond.fieldLink RX0 29 "OddsSampling" "questionCount" "I", Cond.methodLink RX0 143 yX0_drawWorld, Cond.instanceMethod yX0_drawWorld, Cond.selects RX0 yX0_drawWorld yX0_drawWorld, Cond.code yX0_drawWorld cX0_drawWorld 7 (some .int), Cond.fieldLink RX0 25 "OddsSampling" "factCount" "I", Cond.fieldLink RX0 13 "OddsSampling" "downs" "[J", Cond.fieldLink RX0 9 "OddsSampling" "ups" "[J", Cond.methodLink RX0 177 yX0_draw, Cond.instanceMethod yX0_draw, Cond.selects RX0 yX0_draw yX0_draw, Cond.code yX0_draw cX0_draw 1 (some .long), Cond.constantLong RX0 181 (25214903917), Cond.constantLong RX0 183 (11), Cond.methodLink RX0 146 yX0_at, Cond.static yX0_at, Cond.code yX0_at cX0_at 2 (some .long)]
def wsX0_sample_r2 : List Cond := [Cond.methodLink RX0 92 yX0_isTrue, Cond.instanceMethod yX0_isTrue, Cond.selects RX0 yX0_isTrue yX0_isTrue, Cond.code yX0_isTrue cX0_isTrue 5 (some .boolean), Cond.methodLink RX0 77 yX0_blockOf, Cond.instanceMethod yX0_blockOf, Cond.selects RX0 yX0_blockOf yX0_blockOf, Cond.code yX0_blockOf cX0_blockOf 3 (some .long), Cond.fieldLink RX0 22 "OddsSampling" "answers" "[J", Cond.methodLink RX0 150 yX0_isBitOn, Cond.static yX0_isBitOn, Cond.code yX0_isBitOn cX0_isBitOn 3 (some .boolean)]
def wsX0_sample : List Cond := .code yX0_sample cX0_sample 7 (some .int) :: ((wsX0_sample_r1 ++ wsX0_sample_r2) ++ wsX00)
def wsX0_seed : List Cond := .code yX0_seed cX0_seed 1 (some .long) :: ([.fieldLink RX0 32 "OddsSampling" "lastSeed" "J"] ++ wsX00)
def wsX0_questions : List Cond := .code yX0_questions cX0_questions 1 (some .int) :: ([.fieldLink RX0 29 "OddsSampling" "questionCount" "I"] ++ wsX00)
def wsX1_init : List Cond := .code yX1_init cX1_init 1 none :: ([.methodLink RX1 1 objectInit, .instanceMethod objectInit, .code objectInit ⟨#[0xb1]⟩ 1 none, .arrayClass .int, .fieldLink RX1 7 "OddsSamplingModel" "ups" "[I", .fieldLink RX1 13 "OddsSamplingModel" "downs" "[I", .constant RX1 16 (163840), .arrayClass .boolean, .fieldLink RX1 17 "OddsSamplingModel" "truths" "[Z"] ++ wsX10)
def wsX1_thrown : List Cond := .code yX1_thrown cX1_thrown 1 (some .int) :: ([.fieldLink RX1 21 "OddsSamplingModel" "thrown" "I"] ++ wsX10)
def wsX1_areOdds : List Cond := .code yX1_areOdds cX1_areOdds 2 (some .boolean) :: ([])
def wsX1_isQuestion : List Cond := .code yX1_isQuestion cX1_isQuestion 2 (some .boolean) :: ([.fieldLink RX1 25 "OddsSamplingModel" "questions" "I"] ++ wsX10)
def wsX1_areFacts : List Cond := .code yX1_areFacts cX1_areFacts 2 (some .boolean) :: ([.fieldLink RX1 28 "OddsSamplingModel" "facts" "I"] ++ wsX10)
def wsX1_fact : List Cond := .code yX1_fact cX1_fact 3 (some .int) :: ([.fieldLink RX1 21 "OddsSamplingModel" "thrown" "I", .fieldLink RX1 28 "OddsSamplingModel" "facts" "I", .fieldLink RX1 7 "OddsSamplingModel" "ups" "[I", .fieldLink RX1 13 "OddsSamplingModel" "downs" "[I", .methodLink RX1 31 yX1_areOdds, .static yX1_areOdds, .initialized RX1, .code yX1_areOdds cX1_areOdds 2 (some .boolean)] ++ wsX10)
def wsX1_odds : List Cond := .code yX1_odds cX1_odds 4 (some .int) :: ([.fieldLink RX1 21 "OddsSamplingModel" "thrown" "I", .fieldLink RX1 28 "OddsSamplingModel" "facts" "I", .fieldLink RX1 7 "OddsSamplingModel" "ups" "[I", .fieldLink RX1 13 "OddsSamplingModel" "downs" "[I", .methodLink RX1 31 yX1_areOdds, .static yX1_areOdds, .initialized RX1, .code yX1_areOdds cX1_areOdds 2 (some .boolean)] ++ wsX10)
def wsX1_isTrue : List Cond := .code yX1_isTrue cX1_isTrue 3 (some .boolean) :: ([.fieldLink RX1 17 "OddsSamplingModel" "truths" "[Z"] ++ wsX10)
def wsX1_set : List Cond := .code yX1_set cX1_set 4 (some .int) :: ([.fieldLink RX1 21 "OddsSamplingModel" "thrown" "I", .fieldLink RX1 25 "OddsSamplingModel" "questions" "I", .fieldLink RX1 17 "OddsSamplingModel" "truths" "[Z", .methodLink RX1 35 yX1_areFacts, .instanceMethod yX1_areFacts, .selects RX1 yX1_areFacts yX1_areFacts, .initialized RX1, .code yX1_areFacts cX1_areFacts 2 (some .boolean), .fieldLink RX1 28 "OddsSamplingModel" "facts" "I"] ++ wsX10)
def wsX1_join : List Cond := .code yX1_join cX1_join 7 (some .int) :: ([.fieldLink RX1 21 "OddsSamplingModel" "thrown" "I", .fieldLink RX1 25 "OddsSamplingModel" "questions" "I", .fieldLink RX1 17 "OddsSamplingModel" "truths" "[Z", .methodLink RX1 39 yX1_isQuestion, .instanceMethod yX1_isQuestion, .selects RX1 yX1_isQuestion yX1_isQuestion, .initialized RX1, .code yX1_isQuestion cX1_isQuestion 2 (some .boolean), .methodLink RX1 42 yX1_isTrue, .instanceMethod yX1_isTrue, .selects RX1 yX1_isTrue yX1_isTrue, .code yX1_isTrue cX1_isTrue 3 (some .boolean)] ++ wsX10)
def wsX1_size : List Cond := .code yX1_size cX1_size 3 (some .int) :: ([])
def wsX1_some : List Cond := .code yX1_some cX1_some 6 (some .int) :: ([.fieldLink RX1 21 "OddsSamplingModel" "thrown" "I", .fieldLink RX1 25 "OddsSamplingModel" "questions" "I", .fieldLink RX1 17 "OddsSamplingModel" "truths" "[Z", .methodLink RX1 35 yX1_areFacts, .instanceMethod yX1_areFacts, .selects RX1 yX1_areFacts yX1_areFacts, .initialized RX1, .code yX1_areFacts cX1_areFacts 2 (some .boolean), .fieldLink RX1 28 "OddsSamplingModel" "facts" "I", .methodLink RX1 45 yX1_size, .static yX1_size, .code yX1_size cX1_size 3 (some .int)] ++ wsX10)
def wsX1_holds : List Cond := .code yX1_holds cX1_holds 3 (some .int) :: ([.fieldLink RX1 21 "OddsSamplingModel" "thrown" "I", .fieldLink RX1 28 "OddsSamplingModel" "facts" "I", .methodLink RX1 39 yX1_isQuestion, .instanceMethod yX1_isQuestion, .selects RX1 yX1_isQuestion yX1_isQuestion, .initialized RX1, .code yX1_isQuestion cX1_isQuestion 2 (some .boolean), .fieldLink RX1 25 "OddsSamplingModel" "questions" "I", .methodLink RX1 42 yX1_isTrue, .instanceMethod yX1_isTrue, .selects RX1 yX1_isTrue yX1_isTrue, .code yX1_isTrue cX1_isTrue 3 (some .boolean), .fieldLink RX1 17 "OddsSamplingModel" "truths" "[Z"] ++ wsX10)
def wsX1_weigh : List Cond := .code yX1_weigh cX1_weigh 5 (some .long) :: ([.fieldLink RX1 28 "OddsSamplingModel" "facts" "I", .fieldLink RX1 7 "OddsSamplingModel" "ups" "[I", .fieldLink RX1 13 "OddsSamplingModel" "downs" "[I"] ++ wsX10)
def wsX1_all : List Cond := .code yX1_all cX1_all 4 (some .long) :: ([.fieldLink RX1 28 "OddsSamplingModel" "facts" "I", .fieldLink RX1 13 "OddsSamplingModel" "downs" "[I"] ++ wsX10)
def wsX1_sum : List Cond := .code yX1_sum cX1_sum 5 (some .long) :: ([.fieldLink RX1 28 "OddsSamplingModel" "facts" "I", .methodLink RX1 42 yX1_isTrue, .instanceMethod yX1_isTrue, .selects RX1 yX1_isTrue yX1_isTrue, .initialized RX1, .code yX1_isTrue cX1_isTrue 3 (some .boolean), .fieldLink RX1 17 "OddsSamplingModel" "truths" "[Z", .methodLink RX1 49 yX1_weigh, .instanceMethod yX1_weigh, .selects RX1 yX1_weigh yX1_weigh, .code yX1_weigh cX1_weigh 5 (some .long), .fieldLink RX1 7 "OddsSamplingModel" "ups" "[I", .fieldLink RX1 13 "OddsSamplingModel" "downs" "[I"] ++ wsX10)
def wsX1_divisor : List Cond := .code yX1_divisor cX1_divisor 10 (some .long) :: ([])
def wsX1_part : List Cond := .code yX1_part cX1_part 8 (some .long) :: ([.methodLink RX1 53 yX1_divisor, .static yX1_divisor, .initialized RX1, .code yX1_divisor cX1_divisor 10 (some .long)])
def wsX1_chance_r1 : List Cond := [Cond.fieldLink RX1 21 "OddsSamplingModel" "thrown" "I", Cond.constantLong RX1 68 (-1), Cond.methodLink RX1 39 yX1_isQuestion, Cond.instanceMethod yX1_isQuestion, Cond.selects RX1 yX1_isQuestion yX1_isQuestion, Cond.initialized RX1, Cond.code yX1_isQuestion cX1_isQuestion 2 (some .boolean), Cond.fieldLink RX1 25 "OddsSamplingModel" "questions" "I", Cond.methodLink RX1 57 yX1_sum, Cond.instanceMethod yX1_sum, Cond.selects RX1 yX1_sum yX1_sum, Cond.code yX1_sum cX1_sum 5 (some .long), Cond.fieldLink RX1 28 "OddsSamplingModel" "facts" "I", Cond.methodLink RX1 42 yX1_isTrue, Cond.instanceMethod yX1_isTrue, Cond.selects RX1 yX1_isTrue yX1_isTrue, Cond.code yX1_isTrue cX1_isTrue 3 (some .boolean), Cond.fieldLink RX1 17 "OddsSamplingModel" "truths" "[Z", Cond.methodLink RX1 49 yX1_weigh, Cond.instanceMethod yX1_weigh, Cond.selects RX1 yX1_weigh yX1_weigh, Cond.code yX1_weigh cX1_weigh 5 (some .long), Cond.fieldLink RX1 7 "OddsSamplingModel" "ups" "[I", Cond.fieldLink RX1 13 "OddsSamplingModel" "downs" "[I"]
def wsX1_chance_r2 : List Cond := [Cond.methodLink RX1 60 yX1_all, Cond.instanceMethod yX1_all, Cond.selects RX1 yX1_all yX1_all, Cond.code yX1_all cX1_all 4 (some .long), Cond.methodLink RX1 64 yX1_part, Cond.instanceMethod yX1_part, Cond.selects RX1 yX1_part yX1_part, Cond.code yX1_part cX1_part 8 (some .long), Cond.methodLink RX1 53 yX1_divisor, Cond.static yX1_divisor, Cond.code yX1_divisor cX1_divisor 10 (some .long)]
def wsX1_chance : List Cond := .code yX1_chance cX1_chance 3 (some .long) :: ((wsX1_chance_r1 ++ wsX1_chance_r2) ++ wsX10)
def wsX1_real_r1 : List Cond := [Cond.fieldLink RX1 21 "OddsSamplingModel" "thrown" "I", Cond.constantDouble RX1 70 (13830554455654793216), Cond.methodLink RX1 39 yX1_isQuestion, Cond.instanceMethod yX1_isQuestion, Cond.selects RX1 yX1_isQuestion yX1_isQuestion, Cond.initialized RX1, Cond.code yX1_isQuestion cX1_isQuestion 2 (some .boolean), Cond.fieldLink RX1 25 "OddsSamplingModel" "questions" "I", Cond.methodLink RX1 57 yX1_sum, Cond.instanceMethod yX1_sum, Cond.selects RX1 yX1_sum yX1_sum, Cond.code yX1_sum cX1_sum 5 (some .long), Cond.fieldLink RX1 28 "OddsSamplingModel" "facts" "I", Cond.methodLink RX1 42 yX1_isTrue, Cond.instanceMethod yX1_isTrue, Cond.selects RX1 yX1_isTrue yX1_isTrue, Cond.code yX1_isTrue cX1_isTrue 3 (some .boolean), Cond.fieldLink RX1 17 "OddsSamplingModel" "truths" "[Z", Cond.methodLink RX1 49 yX1_weigh, Cond.instanceMethod yX1_weigh, Cond.selects RX1 yX1_weigh yX1_weigh, Cond.code yX1_weigh cX1_weigh 5 (some .long), Cond.fieldLink RX1 7 "OddsSamplingModel" "ups" "[I", Cond.fieldLink RX1 13 "OddsSamplingModel" "downs" "[I"]
def wsX1_real_r2 : List Cond := [Cond.methodLink RX1 60 yX1_all, Cond.instanceMethod yX1_all, Cond.selects RX1 yX1_all yX1_all, Cond.code yX1_all cX1_all 4 (some .long), Cond.methodLink RX1 64 yX1_part, Cond.instanceMethod yX1_part, Cond.selects RX1 yX1_part yX1_part, Cond.code yX1_part cX1_part 8 (some .long), Cond.methodLink RX1 53 yX1_divisor, Cond.static yX1_divisor, Cond.code yX1_divisor cX1_divisor 10 (some .long)]
def wsX1_real : List Cond := .code yX1_real cX1_real 4 (some .double) :: ((wsX1_real_r1 ++ wsX1_real_r2) ++ wsX10)
def wsX1_millionths : List Cond := .code yX1_millionths cX1_millionths 9 (some .long) :: ([.constantLong RX1 72 (10)])
def wsX1_given : List Cond := .code yX1_given cX1_given 8 (some .long) :: ([.fieldLink RX1 21 "OddsSamplingModel" "thrown" "I", .fieldLink RX1 28 "OddsSamplingModel" "facts" "I", .methodLink RX1 39 yX1_isQuestion, .instanceMethod yX1_isQuestion, .selects RX1 yX1_isQuestion yX1_isQuestion, .initialized RX1, .code yX1_isQuestion cX1_isQuestion 2 (some .boolean), .fieldLink RX1 25 "OddsSamplingModel" "questions" "I", .methodLink RX1 42 yX1_isTrue, .instanceMethod yX1_isTrue, .selects RX1 yX1_isTrue yX1_isTrue, .code yX1_isTrue cX1_isTrue 3 (some .boolean), .fieldLink RX1 17 "OddsSamplingModel" "truths" "[Z", .methodLink RX1 49 yX1_weigh, .instanceMethod yX1_weigh, .selects RX1 yX1_weigh yX1_weigh, .code yX1_weigh cX1_weigh 5 (some .long), .fieldLink RX1 7 "OddsSamplingModel" "ups" "[I", .fieldLink RX1 13 "OddsSamplingModel" "downs" "[I", .methodLink RX1 74 yX1_millionths, .static yX1_millionths, .code yX1_millionths cX1_millionths 9 (some .long), .constantLong RX1 72 (10)] ++ wsX10)
def wsX1_influence_r1 : List Cond := [Cond.fieldLink RX1 21 "OddsSamplingModel" "thrown" "I", Cond.fieldLink RX1 28 "OddsSamplingModel" "facts" "I", Cond.fieldLink RX1 7 "OddsSamplingModel" "ups" "[I", Cond.fieldLink RX1 13 "OddsSamplingModel" "downs" "[I", Cond.methodLink RX1 39 yX1_isQuestion, Cond.instanceMethod yX1_isQuestion, Cond.selects RX1 yX1_isQuestion yX1_isQuestion, Cond.initialized RX1, Cond.code yX1_isQuestion cX1_isQuestion 2 (some .boolean), Cond.fieldLink RX1 25 "OddsSamplingModel" "questions" "I", Cond.methodLink RX1 57 yX1_sum, Cond.instanceMethod yX1_sum, Cond.selects RX1 yX1_sum yX1_sum, Cond.code yX1_sum cX1_sum 5 (some .long), Cond.methodLink RX1 42 yX1_isTrue, Cond.instanceMethod yX1_isTrue, Cond.selects RX1 yX1_isTrue yX1_isTrue, Cond.code yX1_isTrue cX1_isTrue 3 (some .boolean), Cond.fieldLink RX1 17 "OddsSamplingModel" "truths" "[Z", Cond.methodLink RX1 49 yX1_weigh, Cond.instanceMethod yX1_weigh, Cond.selects RX1 yX1_weigh yX1_weigh, Cond.code yX1_weigh cX1_weigh 5 (some .long), Cond.methodLink RX1 60 yX1_all]
def wsX1_influence_r2 : List Cond := [Cond.instanceMethod yX1_all, Cond.selects RX1 yX1_all yX1_all, Cond.code yX1_all cX1_all 4 (some .long), Cond.methodLink RX1 64 yX1_part, Cond.instanceMethod yX1_part, Cond.selects RX1 yX1_part yX1_part, Cond.code yX1_part cX1_part 8 (some .long), Cond.methodLink RX1 53 yX1_divisor, Cond.static yX1_divisor, Cond.code yX1_divisor cX1_divisor 10 (some .long)]
def wsX1_influence : List Cond := .code yX1_influence cX1_influence 12 (some .long) :: ((wsX1_influence_r1 ++ wsX1_influence_r2) ++ wsX10)
def wsX1_hangs : List Cond := .code yX1_hangs cX1_hangs 5 (some .int) :: ([.fieldLink RX1 21 "OddsSamplingModel" "thrown" "I", .fieldLink RX1 28 "OddsSamplingModel" "facts" "I", .methodLink RX1 39 yX1_isQuestion, .instanceMethod yX1_isQuestion, .selects RX1 yX1_isQuestion yX1_isQuestion, .initialized RX1, .code yX1_isQuestion cX1_isQuestion 2 (some .boolean), .fieldLink RX1 25 "OddsSamplingModel" "questions" "I", .methodLink RX1 42 yX1_isTrue, .instanceMethod yX1_isTrue, .selects RX1 yX1_isTrue yX1_isTrue, .code yX1_isTrue cX1_isTrue 3 (some .boolean), .fieldLink RX1 17 "OddsSamplingModel" "truths" "[Z"] ++ wsX10)
def wsX1_best : List Cond := .code yX1_best cX1_best 4 (some .int) :: ([.fieldLink RX1 28 "OddsSamplingModel" "facts" "I", .methodLink RX1 42 yX1_isTrue, .instanceMethod yX1_isTrue, .selects RX1 yX1_isTrue yX1_isTrue, .initialized RX1, .code yX1_isTrue cX1_isTrue 3 (some .boolean), .fieldLink RX1 17 "OddsSamplingModel" "truths" "[Z", .methodLink RX1 49 yX1_weigh, .instanceMethod yX1_weigh, .selects RX1 yX1_weigh yX1_weigh, .code yX1_weigh cX1_weigh 5 (some .long), .fieldLink RX1 7 "OddsSamplingModel" "ups" "[I", .fieldLink RX1 13 "OddsSamplingModel" "downs" "[I"] ++ wsX10)
def wsX1_likeliest : List Cond := .code yX1_likeliest cX1_likeliest 2 (some .int) :: ([.fieldLink RX1 21 "OddsSamplingModel" "thrown" "I", .methodLink RX1 39 yX1_isQuestion, .instanceMethod yX1_isQuestion, .selects RX1 yX1_isQuestion yX1_isQuestion, .initialized RX1, .code yX1_isQuestion cX1_isQuestion 2 (some .boolean), .fieldLink RX1 25 "OddsSamplingModel" "questions" "I", .methodLink RX1 77 yX1_best, .instanceMethod yX1_best, .selects RX1 yX1_best yX1_best, .code yX1_best cX1_best 4 (some .int), .fieldLink RX1 28 "OddsSamplingModel" "facts" "I", .methodLink RX1 42 yX1_isTrue, .instanceMethod yX1_isTrue, .selects RX1 yX1_isTrue yX1_isTrue, .code yX1_isTrue cX1_isTrue 3 (some .boolean), .fieldLink RX1 17 "OddsSamplingModel" "truths" "[Z", .methodLink RX1 49 yX1_weigh, .instanceMethod yX1_weigh, .selects RX1 yX1_weigh yX1_weigh, .code yX1_weigh cX1_weigh 5 (some .long), .fieldLink RX1 7 "OddsSamplingModel" "ups" "[I", .fieldLink RX1 13 "OddsSamplingModel" "downs" "[I"] ++ wsX10)
def wsX1_weight : List Cond := .code yX1_weight cX1_weight 3 (some .long) :: ([.fieldLink RX1 21 "OddsSamplingModel" "thrown" "I", .methodLink RX1 39 yX1_isQuestion, .instanceMethod yX1_isQuestion, .selects RX1 yX1_isQuestion yX1_isQuestion, .initialized RX1, .code yX1_isQuestion cX1_isQuestion 2 (some .boolean), .fieldLink RX1 25 "OddsSamplingModel" "questions" "I", .methodLink RX1 77 yX1_best, .instanceMethod yX1_best, .selects RX1 yX1_best yX1_best, .code yX1_best cX1_best 4 (some .int), .fieldLink RX1 28 "OddsSamplingModel" "facts" "I", .methodLink RX1 42 yX1_isTrue, .instanceMethod yX1_isTrue, .selects RX1 yX1_isTrue yX1_isTrue, .code yX1_isTrue cX1_isTrue 3 (some .boolean), .fieldLink RX1 17 "OddsSamplingModel" "truths" "[Z", .methodLink RX1 49 yX1_weigh, .instanceMethod yX1_weigh, .selects RX1 yX1_weigh yX1_weigh, .code yX1_weigh cX1_weigh 5 (some .long), .fieldLink RX1 7 "OddsSamplingModel" "ups" "[I", .fieldLink RX1 13 "OddsSamplingModel" "downs" "[I"] ++ wsX10)
def wsX1_worlds : List Cond := .code yX1_worlds cX1_worlds 4 (some .int) :: ([.fieldLink RX1 21 "OddsSamplingModel" "thrown" "I", .fieldLink RX1 28 "OddsSamplingModel" "facts" "I", .methodLink RX1 39 yX1_isQuestion, .instanceMethod yX1_isQuestion, .selects RX1 yX1_isQuestion yX1_isQuestion, .initialized RX1, .code yX1_isQuestion cX1_isQuestion 2 (some .boolean), .fieldLink RX1 25 "OddsSamplingModel" "questions" "I", .methodLink RX1 42 yX1_isTrue, .instanceMethod yX1_isTrue, .selects RX1 yX1_isTrue yX1_isTrue, .code yX1_isTrue cX1_isTrue 3 (some .boolean), .fieldLink RX1 17 "OddsSamplingModel" "truths" "[Z"] ++ wsX10)
def wsX1_same : List Cond := .code yX1_same cX1_same 4 (some .int) :: ([.fieldLink RX1 21 "OddsSamplingModel" "thrown" "I", .fieldLink RX1 28 "OddsSamplingModel" "facts" "I", .methodLink RX1 39 yX1_isQuestion, .instanceMethod yX1_isQuestion, .selects RX1 yX1_isQuestion yX1_isQuestion, .initialized RX1, .code yX1_isQuestion cX1_isQuestion 2 (some .boolean), .fieldLink RX1 25 "OddsSamplingModel" "questions" "I", .methodLink RX1 42 yX1_isTrue, .instanceMethod yX1_isTrue, .selects RX1 yX1_isTrue yX1_isTrue, .code yX1_isTrue cX1_isTrue 3 (some .boolean), .fieldLink RX1 17 "OddsSamplingModel" "truths" "[Z"] ++ wsX10)
def wsX1_draw : List Cond := .code yX1_draw cX1_draw 5 (some .int) :: ([.fieldLink RX1 28 "OddsSamplingModel" "facts" "I", .fieldLink RX1 80 "OddsSamplingModel" "seed" "J", .constantLong RX1 84 (25214903917), .constantLong RX1 86 (11), .constantLong RX1 88 (281474976710655), .fieldLink RX1 13 "OddsSamplingModel" "downs" "[I", .fieldLink RX1 7 "OddsSamplingModel" "ups" "[I"] ++ wsX10)
def wsX1_sample : List Cond := .code yX1_sample cX1_sample 7 (some .int) :: ([.fieldLink RX1 21 "OddsSamplingModel" "thrown" "I", .constantLong RX1 88 (281474976710655), .fieldLink RX1 80 "OddsSamplingModel" "seed" "J", .methodLink RX1 39 yX1_isQuestion, .instanceMethod yX1_isQuestion, .selects RX1 yX1_isQuestion yX1_isQuestion, .initialized RX1, .code yX1_isQuestion cX1_isQuestion 2 (some .boolean), .fieldLink RX1 25 "OddsSamplingModel" "questions" "I", .methodLink RX1 90 yX1_draw, .instanceMethod yX1_draw, .selects RX1 yX1_draw yX1_draw, .code yX1_draw cX1_draw 5 (some .int), .fieldLink RX1 28 "OddsSamplingModel" "facts" "I", .constantLong RX1 84 (25214903917), .constantLong RX1 86 (11), .fieldLink RX1 13 "OddsSamplingModel" "downs" "[I", .fieldLink RX1 7 "OddsSamplingModel" "ups" "[I", .methodLink RX1 42 yX1_isTrue, .instanceMethod yX1_isTrue, .selects RX1 yX1_isTrue yX1_isTrue, .code yX1_isTrue cX1_isTrue 3 (some .boolean), .fieldLink RX1 17 "OddsSamplingModel" "truths" "[Z"] ++ wsX10)
def wsX1_seed : List Cond := .code yX1_seed cX1_seed 1 (some .long) :: ([.fieldLink RX1 21 "OddsSamplingModel" "thrown" "I", .fieldLink RX1 80 "OddsSamplingModel" "seed" "J"] ++ wsX10)
def wsX1_questions : List Cond := .code yX1_questions cX1_questions 1 (some .int) :: ([.fieldLink RX1 21 "OddsSamplingModel" "thrown" "I", .fieldLink RX1 25 "OddsSamplingModel" "questions" "I"] ++ wsX10)
def wsL_given_r1 : List Cond := [Cond.classLink RL 13 "java/lang/ArithmeticException", Cond.methodLink RL 7 yX0_given, Cond.instanceMethod yX0_given, Cond.selects RX0 yX0_given yX0_given, Cond.initialized RX0, Cond.code yX0_given cX0_given 5 (some .long), Cond.classLink RX0 113 "java/lang/ArithmeticException", Cond.initialized "java/lang/ArithmeticException", Cond.constantLong RX0 120 (1000000), Cond.methodLink RX0 74 yX0_isQuestion, Cond.instanceMethod yX0_isQuestion, Cond.selects RX0 yX0_isQuestion yX0_isQuestion, Cond.code yX0_isQuestion cX0_isQuestion 2 (some .boolean), Cond.fieldLink RX0 29 "OddsSampling" "questionCount" "I", Cond.methodLink RX0 100 yX0_sumOfBoth, Cond.instanceMethod yX0_sumOfBoth, Cond.selects RX0 yX0_sumOfBoth yX0_sumOfBoth, Cond.code yX0_sumOfBoth cX0_sumOfBoth 8 (some .long), Cond.fieldLink RX0 19 "OddsSampling" "upperWeights" "[J", Cond.methodLink RX0 146 yX0_at, Cond.static yX0_at, Cond.code yX0_at cX0_at 2 (some .long), Cond.methodLink RX0 77 yX0_blockOf, Cond.instanceMethod yX0_blockOf]
def wsL_given_r2 : List Cond := [Cond.selects RX0 yX0_blockOf yX0_blockOf, Cond.code yX0_blockOf cX0_blockOf 3 (some .long), Cond.fieldLink RX0 22 "OddsSampling" "answers" "[J", Cond.methodLink RX0 169 yX0_lowerSum, Cond.instanceMethod yX0_lowerSum, Cond.selects RX0 yX0_lowerSum yX0_lowerSum, Cond.code yX0_lowerSum cX0_lowerSum 6 (some .long), Cond.fieldLink RX0 16 "OddsSampling" "lowerWeights" "[J", Cond.methodLink RX0 150 yX0_isBitOn, Cond.static yX0_isBitOn, Cond.code yX0_isBitOn cX0_isBitOn 3 (some .boolean)]
def wsL_given : List Cond := .codeWith yL_given cL_given 5 (some .int) [(0, 9, 12, 13)] :: ((wsL_given_r1 ++ wsL_given_r2) ++ wsX00 ++ (vx_atS RX0 117 "java/lang/ArithmeticException" ["java/lang/RuntimeException", "java/lang/Exception"]).filter goodWord)
def wsL_law0_r1 : List Cond := [Cond.classLink RL 8 RX0, Cond.instantiable RX0 8, Cond.initialized RX0, Cond.classLink RL 16 RX1, Cond.instantiable RX1 7, Cond.initialized RX1, Cond.arrayClass .long, Cond.constantLong RL 91 (4294967295), Cond.methodLink RL 15 yX0_init, Cond.instanceMethod yX0_init, Cond.code yX0_init cX0_init 2 none, Cond.methodLink RX0 1 objectInit, Cond.instanceMethod objectInit, Cond.code objectInit ⟨#[0xb1]⟩ 1 none, Cond.fieldLink RX0 9 "OddsSampling" "ups" "[J", Cond.fieldLink RX0 13 "OddsSampling" "downs" "[J", Cond.fieldLink RX0 16 "OddsSampling" "lowerWeights" "[J", Cond.fieldLink RX0 19 "OddsSampling" "upperWeights" "[J", Cond.fieldLink RX0 22 "OddsSampling" "answers" "[J", Cond.fieldLink RX0 25 "OddsSampling" "factCount" "I", Cond.fieldLink RX0 29 "OddsSampling" "questionCount" "I", Cond.fieldLink RX0 32 "OddsSampling" "lastSeed" "J", Cond.methodLink RX0 36 yX0_put, Cond.static yX0_put]
def wsL_law0_r2 : List Cond := [Cond.code yX0_put cX0_put 4 none, Cond.methodLink RX0 40 yX0_weigh, Cond.instanceMethod yX0_weigh, Cond.selects RX0 yX0_weigh yX0_weigh, Cond.code yX0_weigh cX0_weigh 1 none, Cond.methodLink RX0 165 yX0_weighHalf, Cond.instanceMethod yX0_weighHalf, Cond.selects RX0 yX0_weighHalf yX0_weighHalf, Cond.code yX0_weighHalf cX0_weighHalf 12 none, Cond.methodLink RX0 146 yX0_at, Cond.static yX0_at, Cond.code yX0_at cX0_at 2 (some .long), Cond.methodLink RL 18 yX1_init, Cond.instanceMethod yX1_init, Cond.code yX1_init cX1_init 1 none, Cond.methodLink RX1 1 objectInit, Cond.arrayClass .int, Cond.fieldLink RX1 7 "OddsSamplingModel" "ups" "[I", Cond.fieldLink RX1 13 "OddsSamplingModel" "downs" "[I", Cond.constant RX1 16 (163840), Cond.arrayClass .boolean, Cond.fieldLink RX1 17 "OddsSamplingModel" "truths" "[Z", Cond.methodLink RL 19 yX0_fact, Cond.instanceMethod yX0_fact]
def wsL_law0_r3 : List Cond := [Cond.selects RX0 yX0_fact yX0_fact, Cond.code yX0_fact cX0_fact 4 (some .int), Cond.methodLink RX0 43 yX0_areOdds, Cond.static yX0_areOdds, Cond.code yX0_areOdds cX0_areOdds 2 (some .boolean), Cond.methodLink RX0 47 yX0_putOdds, Cond.instanceMethod yX0_putOdds, Cond.selects RX0 yX0_putOdds yX0_putOdds, Cond.code yX0_putOdds cX0_putOdds 6 none, Cond.methodLink RL 23 yX1_fact, Cond.instanceMethod yX1_fact, Cond.selects RX1 yX1_fact yX1_fact, Cond.code yX1_fact cX1_fact 3 (some .int), Cond.fieldLink RX1 21 "OddsSamplingModel" "thrown" "I", Cond.fieldLink RX1 28 "OddsSamplingModel" "facts" "I", Cond.methodLink RX1 31 yX1_areOdds, Cond.static yX1_areOdds, Cond.code yX1_areOdds cX1_areOdds 2 (some .boolean), Cond.methodLink RL 24 yX0_odds, Cond.instanceMethod yX0_odds, Cond.selects RX0 yX0_odds yX0_odds, Cond.code yX0_odds cX0_odds 4 (some .int), Cond.methodLink RX0 51 yX0_isFact, Cond.instanceMethod yX0_isFact]
def wsL_law0_r4 : List Cond := [Cond.selects RX0 yX0_isFact yX0_isFact, Cond.code yX0_isFact cX0_isFact 2 (some .boolean), Cond.methodLink RL 28 yX1_odds, Cond.instanceMethod yX1_odds, Cond.selects RX1 yX1_odds yX1_odds, Cond.code yX1_odds cX1_odds 4 (some .int), Cond.methodLink RL 29 yX0_set, Cond.instanceMethod yX0_set, Cond.selects RX0 yX0_set yX0_set, Cond.code yX0_set cX0_set 4 (some .int), Cond.methodLink RX0 55 yX0_areFacts, Cond.instanceMethod yX0_areFacts, Cond.selects RX0 yX0_areFacts yX0_areFacts, Cond.code yX0_areFacts cX0_areFacts 2 (some .boolean), Cond.methodLink RX0 89 yX0_allFacts, Cond.instanceMethod yX0_allFacts, Cond.selects RX0 yX0_allFacts yX0_allFacts, Cond.code yX0_allFacts cX0_allFacts 1 (some .int), Cond.methodLink RX0 58 yX0_isFull, Cond.instanceMethod yX0_isFull, Cond.selects RX0 yX0_isFull yX0_isFull, Cond.code yX0_isFull cX0_isFull 1 (some .boolean), Cond.methodLink RX0 62 yX0_setBlock, Cond.static yX0_setBlock]
def wsL_law0_r5 : List Cond := [Cond.code yX0_setBlock cX0_setBlock 7 (some .long), Cond.methodLink RX0 66 yX0_putNextBlock, Cond.instanceMethod yX0_putNextBlock, Cond.selects RX0 yX0_putNextBlock yX0_putNextBlock, Cond.code yX0_putNextBlock cX0_putNextBlock 4 none, Cond.methodLink RX0 70 yX0_keepNext, Cond.instanceMethod yX0_keepNext, Cond.selects RX0 yX0_keepNext yX0_keepNext, Cond.code yX0_keepNext cX0_keepNext 2 (some .int), Cond.methodLink RL 32 yX1_set, Cond.instanceMethod yX1_set, Cond.selects RX1 yX1_set yX1_set, Cond.code yX1_set cX1_set 4 (some .int), Cond.fieldLink RX1 25 "OddsSamplingModel" "questions" "I", Cond.methodLink RX1 35 yX1_areFacts, Cond.instanceMethod yX1_areFacts, Cond.selects RX1 yX1_areFacts yX1_areFacts, Cond.code yX1_areFacts cX1_areFacts 2 (some .boolean), Cond.methodLink RL 33 yX0_join, Cond.instanceMethod yX0_join, Cond.selects RX0 yX0_join yX0_join, Cond.code yX0_join cX0_join 5 (some .int), Cond.methodLink RX0 74 yX0_isQuestion, Cond.instanceMethod yX0_isQuestion]
def wsL_law0_r6 : List Cond := [Cond.selects RX0 yX0_isQuestion yX0_isQuestion, Cond.code yX0_isQuestion cX0_isQuestion 2 (some .boolean), Cond.methodLink RX0 77 yX0_blockOf, Cond.instanceMethod yX0_blockOf, Cond.selects RX0 yX0_blockOf yX0_blockOf, Cond.code yX0_blockOf cX0_blockOf 3 (some .long), Cond.methodLink RX0 81 yX0_joined, Cond.static yX0_joined, Cond.code yX0_joined cX0_joined 5 (some .long), Cond.constantLong RX0 98 (-1), Cond.methodLink RL 36 yX1_join, Cond.instanceMethod yX1_join, Cond.selects RX1 yX1_join yX1_join, Cond.code yX1_join cX1_join 7 (some .int), Cond.methodLink RX1 39 yX1_isQuestion, Cond.instanceMethod yX1_isQuestion, Cond.selects RX1 yX1_isQuestion yX1_isQuestion, Cond.code yX1_isQuestion cX1_isQuestion 2 (some .boolean), Cond.methodLink RX1 42 yX1_isTrue, Cond.instanceMethod yX1_isTrue, Cond.selects RX1 yX1_isTrue yX1_isTrue, Cond.code yX1_isTrue cX1_isTrue 3 (some .boolean), Cond.methodLink RL 37 yX0_some, Cond.instanceMethod yX0_some]
def wsL_law0_r7 : List Cond := [Cond.selects RX0 yX0_some yX0_some, Cond.code yX0_some cX0_some 5 (some .int), Cond.methodLink RX0 85 yX0_someBlock, Cond.static yX0_someBlock, Cond.code yX0_someBlock cX0_someBlock 8 (some .long), Cond.methodLink RX0 154 yJ6_bitCount_0f7a4, Cond.static yJ6_bitCount_0f7a4, Cond.initialized RJ6, Cond.code yJ6_bitCount_0f7a4 cJ6_bitCount_0f7a4 1 (some .int), Cond.constant RJ6 265 (1431655765), Cond.constant RJ6 266 (858993459), Cond.constant RJ6 267 (252645135), Cond.methodLink RL 40 yX1_some, Cond.instanceMethod yX1_some, Cond.selects RX1 yX1_some yX1_some, Cond.code yX1_some cX1_some 6 (some .int), Cond.methodLink RX1 45 yX1_size, Cond.static yX1_size, Cond.code yX1_size cX1_size 3 (some .int), Cond.methodLink RL 41 yX0_holds, Cond.instanceMethod yX0_holds, Cond.selects RX0 yX0_holds yX0_holds, Cond.code yX0_holds cX0_holds 3 (some .int), Cond.methodLink RX0 92 yX0_isTrue]
def wsL_law0_r8 : List Cond := [Cond.instanceMethod yX0_isTrue, Cond.selects RX0 yX0_isTrue yX0_isTrue, Cond.code yX0_isTrue cX0_isTrue 5 (some .boolean), Cond.methodLink RX0 150 yX0_isBitOn, Cond.static yX0_isBitOn, Cond.code yX0_isBitOn cX0_isBitOn 3 (some .boolean), Cond.methodLink RL 44 yX1_holds, Cond.instanceMethod yX1_holds, Cond.selects RX1 yX1_holds yX1_holds, Cond.code yX1_holds cX1_holds 3 (some .int), Cond.methodLink RL 45 yX0_chance, Cond.instanceMethod yX0_chance, Cond.selects RX0 yX0_chance yX0_chance, Cond.code yX0_chance cX0_chance 3 (some .long), Cond.methodLink RX0 95 yX0_isPart, Cond.static yX0_isPart, Cond.code yX0_isPart cX0_isPart 1 (some .boolean), Cond.methodLink RX0 100 yX0_sumOfBoth, Cond.instanceMethod yX0_sumOfBoth, Cond.selects RX0 yX0_sumOfBoth yX0_sumOfBoth, Cond.code yX0_sumOfBoth cX0_sumOfBoth 8 (some .long), Cond.methodLink RX0 169 yX0_lowerSum, Cond.instanceMethod yX0_lowerSum, Cond.selects RX0 yX0_lowerSum yX0_lowerSum]
def wsL_law0_r9 : List Cond := [Cond.code yX0_lowerSum cX0_lowerSum 6 (some .long), Cond.methodLink RX0 103 yX0_allBut, Cond.instanceMethod yX0_allBut, Cond.selects RX0 yX0_allBut yX0_allBut, Cond.code yX0_allBut cX0_allBut 5 (some .long), Cond.methodLink RX0 107 yX0_lowestPart, Cond.static yX0_lowestPart, Cond.code yX0_lowestPart cX0_lowestPart 7 (some .long), Cond.methodLink RX0 173 yX0_greatestDivisor, Cond.static yX0_greatestDivisor, Cond.code yX0_greatestDivisor cX0_greatestDivisor 11 (some .long), Cond.methodLink RL 48 yX1_chance, Cond.instanceMethod yX1_chance, Cond.selects RX1 yX1_chance yX1_chance, Cond.code yX1_chance cX1_chance 3 (some .long), Cond.constantLong RX1 68 (-1), Cond.methodLink RX1 57 yX1_sum, Cond.instanceMethod yX1_sum, Cond.selects RX1 yX1_sum yX1_sum, Cond.code yX1_sum cX1_sum 5 (some .long), Cond.methodLink RX1 49 yX1_weigh, Cond.instanceMethod yX1_weigh, Cond.selects RX1 yX1_weigh yX1_weigh, Cond.code yX1_weigh cX1_weigh 5 (some .long)]
def wsL_law0_r10 : List Cond := [Cond.methodLink RX1 60 yX1_all, Cond.instanceMethod yX1_all, Cond.selects RX1 yX1_all yX1_all, Cond.code yX1_all cX1_all 4 (some .long), Cond.methodLink RX1 64 yX1_part, Cond.instanceMethod yX1_part, Cond.selects RX1 yX1_part yX1_part, Cond.code yX1_part cX1_part 8 (some .long), Cond.methodLink RX1 53 yX1_divisor, Cond.static yX1_divisor, Cond.code yX1_divisor cX1_divisor 10 (some .long), Cond.methodLink RL 49 yX0_real, Cond.instanceMethod yX0_real, Cond.selects RX0 yX0_real yX0_real, Cond.code yX0_real cX0_real 6 (some .double), Cond.constantDouble RX0 111 (13830554455654793216), Cond.methodLink RL 53 yX1_real, Cond.instanceMethod yX1_real, Cond.selects RX1 yX1_real yX1_real, Cond.code yX1_real cX1_real 4 (some .double), Cond.constantDouble RX1 70 (13830554455654793216), Cond.methodLink RL 54 yL_given, Cond.static yL_given, Cond.initialized RL]
def wsL_law0_r11 : List Cond := [Cond.codeWith yL_given cL_given 5 (some .int) [(0, 9, 12, 13)], Cond.classLink RL 13 "java/lang/ArithmeticException", Cond.methodLink RL 7 yX0_given, Cond.instanceMethod yX0_given, Cond.selects RX0 yX0_given yX0_given, Cond.code yX0_given cX0_given 5 (some .long), Cond.classLink RX0 113 "java/lang/ArithmeticException", Cond.initialized "java/lang/ArithmeticException", Cond.constantLong RX0 120 (1000000), Cond.methodLink RL 59 yX1_given, Cond.instanceMethod yX1_given, Cond.selects RX1 yX1_given yX1_given, Cond.code yX1_given cX1_given 8 (some .long), Cond.methodLink RX1 74 yX1_millionths, Cond.static yX1_millionths, Cond.code yX1_millionths cX1_millionths 9 (some .long), Cond.constantLong RX1 72 (10), Cond.methodLink RL 60 yX1_thrown, Cond.instanceMethod yX1_thrown, Cond.selects RX1 yX1_thrown yX1_thrown, Cond.code yX1_thrown cX1_thrown 1 (some .int), Cond.methodLink RL 64 yX0_influence, Cond.instanceMethod yX0_influence, Cond.selects RX0 yX0_influence yX0_influence]
def wsL_law0_r12 : List Cond := [Cond.code yX0_influence cX0_influence 6 (some .long), Cond.methodLink RX0 122 yX0_sumWhenSurely, Cond.instanceMethod yX0_sumWhenSurely, Cond.selects RX0 yX0_sumWhenSurely yX0_sumWhenSurely, Cond.code yX0_sumWhenSurely cX0_sumWhenSurely 10 (some .long), Cond.methodLink RL 68 yX1_influence, Cond.instanceMethod yX1_influence, Cond.selects RX1 yX1_influence yX1_influence, Cond.code yX1_influence cX1_influence 12 (some .long), Cond.methodLink RL 69 yX0_hangs, Cond.instanceMethod yX0_hangs, Cond.selects RX0 yX0_hangs yX0_hangs, Cond.code yX0_hangs cX0_hangs 4 (some .int), Cond.methodLink RX0 125 yX0_hangsOn, Cond.instanceMethod yX0_hangsOn, Cond.selects RX0 yX0_hangsOn yX0_hangsOn, Cond.code yX0_hangsOn cX0_hangsOn 4 (some .boolean), Cond.methodLink RX0 158 yX0_changesWith, Cond.instanceMethod yX0_changesWith, Cond.selects RX0 yX0_changesWith yX0_changesWith, Cond.code yX0_changesWith cX0_changesWith 8 (some .boolean), Cond.fieldLink RX0 162 "OddsSampling" "WITHOUT_FACT" "[J", Cond.methodLink RL 73 yX1_hangs, Cond.instanceMethod yX1_hangs]
def wsL_law0_r13 : List Cond := [Cond.selects RX1 yX1_hangs yX1_hangs, Cond.code yX1_hangs cX1_hangs 5 (some .int), Cond.methodLink RL 74 yX0_likeliest, Cond.instanceMethod yX0_likeliest, Cond.selects RX0 yX0_likeliest yX0_likeliest, Cond.code yX0_likeliest cX0_likeliest 2 (some .int), Cond.methodLink RX0 128 yX0_likeliestWorld, Cond.instanceMethod yX0_likeliestWorld, Cond.selects RX0 yX0_likeliestWorld yX0_likeliestWorld, Cond.code yX0_likeliestWorld cX0_likeliestWorld 7 (some .int), Cond.methodLink RX0 132 yX0_weightOf, Cond.instanceMethod yX0_weightOf, Cond.selects RX0 yX0_weightOf yX0_weightOf, Cond.code yX0_weightOf cX0_weightOf 2 (some .long), Cond.methodLink RL 77 yX1_likeliest, Cond.instanceMethod yX1_likeliest, Cond.selects RX1 yX1_likeliest yX1_likeliest, Cond.code yX1_likeliest cX1_likeliest 2 (some .int), Cond.methodLink RX1 77 yX1_best, Cond.instanceMethod yX1_best, Cond.selects RX1 yX1_best yX1_best, Cond.code yX1_best cX1_best 4 (some .int), Cond.methodLink RL 78 yX0_weight, Cond.instanceMethod yX0_weight]
def wsL_law0_r14 : List Cond := [Cond.selects RX0 yX0_weight yX0_weight, Cond.code yX0_weight cX0_weight 3 (some .long), Cond.methodLink RL 82 yX1_weight, Cond.instanceMethod yX1_weight, Cond.selects RX1 yX1_weight yX1_weight, Cond.code yX1_weight cX1_weight 3 (some .long), Cond.methodLink RL 83 yX0_worlds, Cond.instanceMethod yX0_worlds, Cond.selects RX0 yX0_worlds yX0_worlds, Cond.code yX0_worlds cX0_worlds 4 (some .int), Cond.methodLink RX0 135 yJ13_bitCount_95d88, Cond.static yJ13_bitCount_95d88, Cond.initialized RJ13, Cond.code yJ13_bitCount_95d88 cJ13_bitCount_95d88 2 (some .int), Cond.constantLong RJ13 314 (6148914691236517205), Cond.constantLong RJ13 316 (3689348814741910323), Cond.constantLong RJ13 318 (1085102592571150095), Cond.methodLink RL 86 yX1_worlds, Cond.instanceMethod yX1_worlds, Cond.selects RX1 yX1_worlds yX1_worlds, Cond.code yX1_worlds cX1_worlds 4 (some .int), Cond.methodLink RL 87 yX0_same, Cond.instanceMethod yX0_same, Cond.selects RX0 yX0_same yX0_same]
def wsL_law0_r15 : List Cond := [Cond.code yX0_same cX0_same 4 (some .int), Cond.methodLink RL 90 yX1_same, Cond.instanceMethod yX1_same, Cond.selects RX1 yX1_same yX1_same, Cond.code yX1_same cX1_same 4 (some .int), Cond.methodLink RL 93 yX0_sample, Cond.instanceMethod yX0_sample, Cond.selects RX0 yX0_sample yX0_sample, Cond.code yX0_sample cX0_sample 7 (some .int), Cond.constantLong RX0 141 (281474976710655), Cond.methodLink RX0 143 yX0_drawWorld, Cond.instanceMethod yX0_drawWorld, Cond.selects RX0 yX0_drawWorld yX0_drawWorld, Cond.code yX0_drawWorld cX0_drawWorld 7 (some .int), Cond.methodLink RX0 177 yX0_draw, Cond.instanceMethod yX0_draw, Cond.selects RX0 yX0_draw yX0_draw, Cond.code yX0_draw cX0_draw 1 (some .long), Cond.constantLong RX0 181 (25214903917), Cond.constantLong RX0 183 (11), Cond.methodLink RL 97 yX1_sample, Cond.instanceMethod yX1_sample, Cond.selects RX1 yX1_sample yX1_sample, Cond.code yX1_sample cX1_sample 7 (some .int)]
def wsL_law0_r16 : List Cond := [Cond.constantLong RX1 88 (281474976710655), Cond.fieldLink RX1 80 "OddsSamplingModel" "seed" "J", Cond.methodLink RX1 90 yX1_draw, Cond.instanceMethod yX1_draw, Cond.selects RX1 yX1_draw yX1_draw, Cond.code yX1_draw cX1_draw 5 (some .int), Cond.constantLong RX1 84 (25214903917), Cond.constantLong RX1 86 (11), Cond.methodLink RL 98 yX0_seed, Cond.instanceMethod yX0_seed, Cond.selects RX0 yX0_seed yX0_seed, Cond.code yX0_seed cX0_seed 1 (some .long), Cond.methodLink RL 102 yX1_seed, Cond.instanceMethod yX1_seed, Cond.selects RX1 yX1_seed yX1_seed, Cond.code yX1_seed cX1_seed 1 (some .long), Cond.methodLink RL 103 yX0_questions, Cond.instanceMethod yX0_questions, Cond.selects RX0 yX0_questions yX0_questions, Cond.code yX0_questions cX0_questions 1 (some .int), Cond.methodLink RL 106 yX1_questions, Cond.instanceMethod yX1_questions, Cond.selects RX1 yX1_questions yX1_questions, Cond.code yX1_questions cX1_questions 1 (some .int)]
def wsL_law0 : List Cond := (wsL_law0_r1 ++ (wsL_law0_r2 ++ (wsL_law0_r3 ++ (wsL_law0_r4 ++ (wsL_law0_r5 ++ (wsL_law0_r6 ++ (wsL_law0_r7 ++ (wsL_law0_r8 ++ (wsL_law0_r9 ++ (wsL_law0_r10 ++ (wsL_law0_r11 ++ (wsL_law0_r12 ++ (wsL_law0_r13 ++ (wsL_law0_r14 ++ (wsL_law0_r15 ++ wsL_law0_r16))))))))))))))) ++ wsX00 ++ wsX10 ++ ([] : List Cond)
def wsL_law : List Cond := wsL_law0 ++ (vx_atS RX0 117 "java/lang/ArithmeticException" ["java/lang/RuntimeException", "java/lang/Exception"]).filter goodWord
set_option maxRecDepth 20000 in
theorem wsL_law_in0 : ∀ w ∈ wsL_law0, w ∈ lw_tbl := fun w h => (goodIn_p wsL_law0 [45, 48, 51, 55, 59, 62, 359, 92, 95, 99, 393, 396, 103, 107, 400, 111, 115, 119, 123, 126, 130, 134, 404, 408, 138, 142, 146, 149, 412, 416, 420, 154, 157, 160, 424, 427, 167, 171, 174, 431, 178, 181, 185, 189, 193, 196, 199, 435, 439, 443, 447, 451, 454, 203, 459, 287, 464, 467, 389, 208, 212, 472, 216, 220, 224, 476, 230, 234, 238, 480, 484, 242, 488, 246, 249, 492, 256, 496, 260, 265, 269, 500, 505, 275, 511, 279, 515] (by decide +kernel) (by decide +kernel) w h).1
theorem wsL_law_x0 : ∀ w ∈ (vx_atS RX0 117 "java/lang/ArithmeticException" ["java/lang/RuntimeException", "java/lang/Exception"]).filter goodWord, w ∈ lw_tbl := by decide +kernel
theorem wsL_law_in : ∀ w ∈ wsL_law, w ∈ lw_tbl := fun w h => (List.mem_append.mp h).elim (fun h => wsL_law_in0 w h) (fun h => wsL_law_x0 w h)
theorem inlX0 : ∀ w ∈ wsX00, w ∈ wsL_law := fun _ h => List.mem_append_left _ (List.mem_append_left _ (List.mem_append_left _ (List.mem_append_right _ h)))
theorem inX0 : ∀ w ∈ wsX00, w ∈ lw_tbl := fun w h => wsL_law_in w (inlX0 w h)
theorem inlX1 : ∀ w ∈ wsX10, w ∈ wsL_law := fun _ h => List.mem_append_left _ (List.mem_append_left _ (List.mem_append_right _ h))
theorem inX1 : ∀ w ∈ wsX10, w ∈ lw_tbl := fun w h => wsL_law_in w (inlX1 w h)
theorem inJ6 : ∀ w ∈ wsJ60, w ∈ lw_tbl := by decide +kernel
theorem inJ13 : ∀ w ∈ wsJ130, w ∈ lw_tbl := by decide +kernel
theorem inJ0 : ∀ w ∈ wsJ00, w ∈ lw_tbl := by decide +kernel
set_option maxRecDepth 20000 in
theorem ggX0_init_X0_put : GoodIn wsX0_init wsX0_put := goodIn_r _ [16] (by decide +kernel) (by decide +kernel)
set_option maxRecDepth 20000 in
theorem gX0_init_X0_put : GoodIn wsX0_init (va_wsS RX0 36 yX0_put wsX0_put) := goodIn_app (goodIn_of _ (by decide +kernel)) ggX0_init_X0_put
set_option maxRecDepth 20000 in
theorem ggX0_init_X0_weigh : GoodIn wsX0_init wsX0_weigh := goodIn_r _ [20, 7, 8, 21, 22, 23, 15, 24, 5, 6, 13, 14, 16, 25, 26, 27, 28, 29, 30, 31, 32, 33, 34, 35] (by decide +kernel) (by decide +kernel)
set_option maxRecDepth 20000 in
theorem gX0_init_X0_weigh : GoodIn wsX0_init (wsV RX0 40 RX0 yX0_weigh wsX0_weigh) := goodIn_app (goodIn_of _ (by decide +kernel)) ggX0_init_X0_weigh
theorem dX0_init_0 : decode cX0_init 0 = .ok (.aload_n 0, 1) := by decide +kernel
theorem dX0_init_1 : decode cX0_init 1 = .ok (.invokespecial 1, 3) := by decide +kernel
theorem dX0_init_4 : decode cX0_init 4 = .ok (.aload_n 0, 1) := by decide +kernel
theorem dX0_init_5 : decode cX0_init 5 = .ok (.bipush 12, 2) := by decide +kernel
theorem dX0_init_7 : decode cX0_init 7 = .ok (.newarray .long, 2) := by decide +kernel
theorem dX0_init_9 : decode cX0_init 9 = .ok (.putfield 9, 3) := by decide +kernel
theorem dX0_init_12 : decode cX0_init 12 = .ok (.aload_n 0, 1) := by decide +kernel
theorem dX0_init_13 : decode cX0_init 13 = .ok (.bipush 12, 2) := by decide +kernel
theorem dX0_init_15 : decode cX0_init 15 = .ok (.newarray .long, 2) := by decide +kernel
theorem dX0_init_17 : decode cX0_init 17 = .ok (.putfield 13, 3) := by decide +kernel
theorem dX0_init_20 : decode cX0_init 20 = .ok (.aload_n 0, 1) := by decide +kernel
theorem dX0_init_21 : decode cX0_init 21 = .ok (.bipush 64, 2) := by decide +kernel
theorem dX0_init_23 : decode cX0_init 23 = .ok (.newarray .long, 2) := by decide +kernel
theorem dX0_init_25 : decode cX0_init 25 = .ok (.putfield 16, 3) := by decide +kernel
theorem dX0_init_28 : decode cX0_init 28 = .ok (.aload_n 0, 1) := by decide +kernel
theorem dX0_init_29 : decode cX0_init 29 = .ok (.bipush 64, 2) := by decide +kernel
theorem dX0_init_31 : decode cX0_init 31 = .ok (.newarray .long, 2) := by decide +kernel
theorem dX0_init_33 : decode cX0_init 33 = .ok (.putfield 19, 3) := by decide +kernel
theorem dX0_init_36 : decode cX0_init 36 = .ok (.aload_n 0, 1) := by decide +kernel
theorem dX0_init_37 : decode cX0_init 37 = .ok (.sipush 2560, 3) := by decide +kernel
theorem dX0_init_40 : decode cX0_init 40 = .ok (.newarray .long, 2) := by decide +kernel
theorem dX0_init_42 : decode cX0_init 42 = .ok (.putfield 22, 3) := by decide +kernel
theorem dX0_init_45 : decode cX0_init 45 = .ok (.aload_n 0, 1) := by decide +kernel
theorem dX0_init_46 : decode cX0_init 46 = .ok (.iconst 0, 1) := by decide +kernel
theorem dX0_init_47 : decode cX0_init 47 = .ok (.putfield 25, 3) := by decide +kernel
theorem dX0_init_50 : decode cX0_init 50 = .ok (.aload_n 0, 1) := by decide +kernel
theorem dX0_init_51 : decode cX0_init 51 = .ok (.iconst 0, 1) := by decide +kernel
theorem dX0_init_52 : decode cX0_init 52 = .ok (.putfield 29, 3) := by decide +kernel
theorem dX0_init_55 : decode cX0_init 55 = .ok (.aload_n 0, 1) := by decide +kernel
theorem dX0_init_56 : decode cX0_init 56 = .ok (.lconst 0, 1) := by decide +kernel
theorem dX0_init_57 : decode cX0_init 57 = .ok (.putfield 32, 3) := by decide +kernel
theorem dX0_init_60 : decode cX0_init 60 = .ok (.iconst 0, 1) := by decide +kernel
theorem dX0_init_61 : decode cX0_init 61 = .ok (.istore_n 1, 1) := by decide +kernel
theorem dX0_init_62 : decode cX0_init 62 = .ok (.iload_n 1, 1) := by decide +kernel
theorem dX0_init_63 : decode cX0_init 63 = .ok (.bipush 12, 2) := by decide +kernel
theorem dX0_init_65 : decode cX0_init 65 = .ok (.if_icmp .ge 18, 3) := by decide +kernel
theorem dX0_init_68 : decode cX0_init 68 = .ok (.aload_n 0, 1) := by decide +kernel
theorem dX0_init_69 : decode cX0_init 69 = .ok (.getfield 13, 3) := by decide +kernel
theorem dX0_init_72 : decode cX0_init 72 = .ok (.iload_n 1, 1) := by decide +kernel
theorem dX0_init_73 : decode cX0_init 73 = .ok (.lconst 1, 1) := by decide +kernel
theorem dX0_init_74 : decode cX0_init 74 = .ok (.invokestatic 36, 3) := by decide +kernel
theorem dX0_init_77 : decode cX0_init 77 = .ok (.iinc 1 1, 3) := by decide +kernel
theorem dX0_init_80 : decode cX0_init 80 = .ok (.goto (-18), 3) := by decide +kernel
theorem dX0_init_83 : decode cX0_init 83 = .ok (.aload_n 0, 1) := by decide +kernel
theorem dX0_init_84 : decode cX0_init 84 = .ok (.invokevirtual 40, 3) := by decide +kernel
theorem dX0_init_87 : decode cX0_init 87 = .ok (.return_, 1) := by decide +kernel
set_option maxRecDepth 20000 in
theorem ggX0_fact_X0_areOdds : GoodIn wsX0_fact wsX0_areOdds := goodIn_r _ [5] (by decide +kernel) (by decide +kernel)
set_option maxRecDepth 20000 in
theorem gX0_fact_X0_areOdds : GoodIn wsX0_fact (va_wsS RX0 43 yX0_areOdds wsX0_areOdds) := goodIn_app (goodIn_of _ (by decide +kernel)) ggX0_fact_X0_areOdds
set_option maxRecDepth 20000 in
theorem ggX0_fact_X0_putOdds : GoodIn wsX0_fact wsX0_putOdds := goodIn_r _ [9, 10, 11, 12, 13, 4, 14, 15, 16, 17, 18, 19, 20, 21, 22, 23, 24, 25, 26, 27, 28, 29, 30, 31, 32, 33, 34, 35] (by decide +kernel) (by decide +kernel)
set_option maxRecDepth 20000 in
theorem gX0_fact_X0_putOdds : GoodIn wsX0_fact (wsV RX0 47 RX0 yX0_putOdds wsX0_putOdds) := goodIn_app (goodIn_of _ (by decide +kernel)) ggX0_fact_X0_putOdds
theorem dX0_fact_0 : decode cX0_fact 0 = .ok (.iload_n 1, 1) := by decide +kernel
theorem dX0_fact_1 : decode cX0_fact 1 = .ok (.iload_n 2, 1) := by decide +kernel
theorem dX0_fact_2 : decode cX0_fact 2 = .ok (.invokestatic 43, 3) := by decide +kernel
theorem dX0_fact_5 : decode cX0_fact 5 = .ok (.ifCond .ne 5, 3) := by decide +kernel
theorem dX0_fact_8 : decode cX0_fact 8 = .ok (.iconst (-1), 1) := by decide +kernel
theorem dX0_fact_9 : decode cX0_fact 9 = .ok (.ireturn, 1) := by decide +kernel
theorem dX0_fact_10 : decode cX0_fact 10 = .ok (.aload_n 0, 1) := by decide +kernel
theorem dX0_fact_11 : decode cX0_fact 11 = .ok (.getfield 25, 3) := by decide +kernel
theorem dX0_fact_14 : decode cX0_fact 14 = .ok (.bipush 12, 2) := by decide +kernel
theorem dX0_fact_16 : decode cX0_fact 16 = .ok (.if_icmp .lt 6, 3) := by decide +kernel
theorem dX0_fact_19 : decode cX0_fact 19 = .ok (.bipush (-3), 2) := by decide +kernel
theorem dX0_fact_21 : decode cX0_fact 21 = .ok (.ireturn, 1) := by decide +kernel
theorem dX0_fact_22 : decode cX0_fact 22 = .ok (.aload_n 0, 1) := by decide +kernel
theorem dX0_fact_23 : decode cX0_fact 23 = .ok (.getfield 25, 3) := by decide +kernel
theorem dX0_fact_26 : decode cX0_fact 26 = .ok (.istore_n 3, 1) := by decide +kernel
theorem dX0_fact_27 : decode cX0_fact 27 = .ok (.aload_n 0, 1) := by decide +kernel
theorem dX0_fact_28 : decode cX0_fact 28 = .ok (.dup, 1) := by decide +kernel
theorem dX0_fact_29 : decode cX0_fact 29 = .ok (.getfield 25, 3) := by decide +kernel
theorem dX0_fact_32 : decode cX0_fact 32 = .ok (.iconst 1, 1) := by decide +kernel
theorem dX0_fact_33 : decode cX0_fact 33 = .ok (.iadd, 1) := by decide +kernel
theorem dX0_fact_34 : decode cX0_fact 34 = .ok (.putfield 25, 3) := by decide +kernel
theorem dX0_fact_37 : decode cX0_fact 37 = .ok (.aload_n 0, 1) := by decide +kernel
theorem dX0_fact_38 : decode cX0_fact 38 = .ok (.iload_n 3, 1) := by decide +kernel
theorem dX0_fact_39 : decode cX0_fact 39 = .ok (.iload_n 1, 1) := by decide +kernel
theorem dX0_fact_40 : decode cX0_fact 40 = .ok (.i2l, 1) := by decide +kernel
theorem dX0_fact_41 : decode cX0_fact 41 = .ok (.iload_n 2, 1) := by decide +kernel
theorem dX0_fact_42 : decode cX0_fact 42 = .ok (.i2l, 1) := by decide +kernel
theorem dX0_fact_43 : decode cX0_fact 43 = .ok (.invokevirtual 47, 3) := by decide +kernel
theorem dX0_fact_46 : decode cX0_fact 46 = .ok (.iload_n 3, 1) := by decide +kernel
theorem dX0_fact_47 : decode cX0_fact 47 = .ok (.ireturn, 1) := by decide +kernel
set_option maxRecDepth 20000 in
theorem ggX0_odds_X0_isFact : GoodIn wsX0_odds wsX0_isFact := goodIn_r _ [5, 6, 32, 33, 34, 35, 36, 37, 38, 39] (by decide +kernel) (by decide +kernel)
set_option maxRecDepth 20000 in
theorem gX0_odds_X0_isFact : GoodIn wsX0_odds (wsV RX0 51 RX0 yX0_isFact wsX0_isFact) := goodIn_app (goodIn_of _ (by decide +kernel)) ggX0_odds_X0_isFact
set_option maxRecDepth 20000 in
theorem ggX0_odds_X0_areOdds : GoodIn wsX0_odds wsX0_areOdds := goodIn_r _ [9] (by decide +kernel) (by decide +kernel)
set_option maxRecDepth 20000 in
theorem gX0_odds_X0_areOdds : GoodIn wsX0_odds (va_wsS RX0 43 yX0_areOdds wsX0_areOdds) := goodIn_app (goodIn_of _ (by decide +kernel)) ggX0_odds_X0_areOdds
set_option maxRecDepth 20000 in
theorem ggX0_odds_X0_putOdds : GoodIn wsX0_odds wsX0_putOdds := goodIn_r _ [13, 14, 15, 16, 17, 4, 18, 19, 20, 21, 22, 23, 24, 25, 26, 27, 28, 29, 30, 31, 32, 33, 34, 35, 36, 37, 38, 39] (by decide +kernel) (by decide +kernel)
set_option maxRecDepth 20000 in
theorem gX0_odds_X0_putOdds : GoodIn wsX0_odds (wsV RX0 47 RX0 yX0_putOdds wsX0_putOdds) := goodIn_app (goodIn_of _ (by decide +kernel)) ggX0_odds_X0_putOdds
theorem dX0_odds_0 : decode cX0_odds 0 = .ok (.aload_n 0, 1) := by decide +kernel
theorem dX0_odds_1 : decode cX0_odds 1 = .ok (.iload_n 1, 1) := by decide +kernel
theorem dX0_odds_2 : decode cX0_odds 2 = .ok (.invokevirtual 51, 3) := by decide +kernel
theorem dX0_odds_5 : decode cX0_odds 5 = .ok (.ifCond .eq 11, 3) := by decide +kernel
theorem dX0_odds_8 : decode cX0_odds 8 = .ok (.iload_n 2, 1) := by decide +kernel
theorem dX0_odds_9 : decode cX0_odds 9 = .ok (.iload_n 3, 1) := by decide +kernel
theorem dX0_odds_10 : decode cX0_odds 10 = .ok (.invokestatic 43, 3) := by decide +kernel
theorem dX0_odds_13 : decode cX0_odds 13 = .ok (.ifCond .ne 5, 3) := by decide +kernel
theorem dX0_odds_16 : decode cX0_odds 16 = .ok (.iconst (-1), 1) := by decide +kernel
theorem dX0_odds_17 : decode cX0_odds 17 = .ok (.ireturn, 1) := by decide +kernel
theorem dX0_odds_18 : decode cX0_odds 18 = .ok (.aload_n 0, 1) := by decide +kernel
theorem dX0_odds_19 : decode cX0_odds 19 = .ok (.iload_n 1, 1) := by decide +kernel
theorem dX0_odds_20 : decode cX0_odds 20 = .ok (.iload_n 2, 1) := by decide +kernel
theorem dX0_odds_21 : decode cX0_odds 21 = .ok (.i2l, 1) := by decide +kernel
theorem dX0_odds_22 : decode cX0_odds 22 = .ok (.iload_n 3, 1) := by decide +kernel
theorem dX0_odds_23 : decode cX0_odds 23 = .ok (.i2l, 1) := by decide +kernel
theorem dX0_odds_24 : decode cX0_odds 24 = .ok (.invokevirtual 47, 3) := by decide +kernel
theorem dX0_odds_27 : decode cX0_odds 27 = .ok (.iconst 1, 1) := by decide +kernel
theorem dX0_odds_28 : decode cX0_odds 28 = .ok (.ireturn, 1) := by decide +kernel
set_option maxRecDepth 20000 in
theorem ggX0_set_X0_areFacts : GoodIn wsX0_set wsX0_areFacts := goodIn_r _ [5, 6, 7, 8, 4, 9, 10, 31, 32, 33, 34, 35, 36, 37, 38] (by decide +kernel) (by decide +kernel)
set_option maxRecDepth 20000 in
theorem gX0_set_X0_areFacts : GoodIn wsX0_set (wsV RX0 55 RX0 yX0_areFacts wsX0_areFacts) := goodIn_app (goodIn_of _ (by decide +kernel)) ggX0_set_X0_areFacts
set_option maxRecDepth 20000 in
theorem ggX0_set_X0_isFull : GoodIn wsX0_set wsX0_isFull := goodIn_r _ [14, 15, 31, 32, 33, 34, 35, 36, 37, 38] (by decide +kernel) (by decide +kernel)
set_option maxRecDepth 20000 in
theorem gX0_set_X0_isFull : GoodIn wsX0_set (wsV RX0 58 RX0 yX0_isFull wsX0_isFull) := goodIn_app (goodIn_of _ (by decide +kernel)) ggX0_set_X0_isFull
set_option maxRecDepth 20000 in
theorem ggX0_set_X0_setBlock : GoodIn wsX0_set wsX0_setBlock := goodIn_r _ [18] (by decide +kernel) (by decide +kernel)
set_option maxRecDepth 20000 in
theorem gX0_set_X0_setBlock : GoodIn wsX0_set (va_wsS RX0 62 yX0_setBlock wsX0_setBlock) := goodIn_app (goodIn_of _ (by decide +kernel)) ggX0_set_X0_setBlock
set_option maxRecDepth 20000 in
theorem ggX0_set_X0_putNextBlock : GoodIn wsX0_set wsX0_putNextBlock := goodIn_r _ [22, 23, 15, 24, 25, 4, 26, 31, 32, 33, 34, 35, 36, 37, 38] (by decide +kernel) (by decide +kernel)
set_option maxRecDepth 20000 in
theorem gX0_set_X0_putNextBlock : GoodIn wsX0_set (wsV RX0 66 RX0 yX0_putNextBlock wsX0_putNextBlock) := goodIn_app (goodIn_of _ (by decide +kernel)) ggX0_set_X0_putNextBlock
set_option maxRecDepth 20000 in
theorem ggX0_set_X0_keepNext : GoodIn wsX0_set wsX0_keepNext := goodIn_r _ [30, 15, 31, 32, 33, 34, 35, 36, 37, 38] (by decide +kernel) (by decide +kernel)
set_option maxRecDepth 20000 in
theorem gX0_set_X0_keepNext : GoodIn wsX0_set (wsV RX0 70 RX0 yX0_keepNext wsX0_keepNext) := goodIn_app (goodIn_of _ (by decide +kernel)) ggX0_set_X0_keepNext
theorem dX0_set_0 : decode cX0_set 0 = .ok (.aload_n 0, 1) := by decide +kernel
theorem dX0_set_1 : decode cX0_set 1 = .ok (.iload_n 1, 1) := by decide +kernel
theorem dX0_set_2 : decode cX0_set 2 = .ok (.invokevirtual 55, 3) := by decide +kernel
theorem dX0_set_5 : decode cX0_set 5 = .ok (.ifCond .eq 11, 3) := by decide +kernel
theorem dX0_set_8 : decode cX0_set 8 = .ok (.aload_n 0, 1) := by decide +kernel
theorem dX0_set_9 : decode cX0_set 9 = .ok (.iload_n 2, 1) := by decide +kernel
theorem dX0_set_10 : decode cX0_set 10 = .ok (.invokevirtual 55, 3) := by decide +kernel
theorem dX0_set_13 : decode cX0_set 13 = .ok (.ifCond .ne 5, 3) := by decide +kernel
theorem dX0_set_16 : decode cX0_set 16 = .ok (.iconst (-1), 1) := by decide +kernel
theorem dX0_set_17 : decode cX0_set 17 = .ok (.ireturn, 1) := by decide +kernel
theorem dX0_set_18 : decode cX0_set 18 = .ok (.aload_n 0, 1) := by decide +kernel
theorem dX0_set_19 : decode cX0_set 19 = .ok (.invokevirtual 58, 3) := by decide +kernel
theorem dX0_set_22 : decode cX0_set 22 = .ok (.ifCond .eq 6, 3) := by decide +kernel
theorem dX0_set_25 : decode cX0_set 25 = .ok (.bipush (-3), 2) := by decide +kernel
theorem dX0_set_27 : decode cX0_set 27 = .ok (.ireturn, 1) := by decide +kernel
theorem dX0_set_28 : decode cX0_set 28 = .ok (.iconst 0, 1) := by decide +kernel
theorem dX0_set_29 : decode cX0_set 29 = .ok (.istore_n 3, 1) := by decide +kernel
theorem dX0_set_30 : decode cX0_set 30 = .ok (.iload_n 3, 1) := by decide +kernel
theorem dX0_set_31 : decode cX0_set 31 = .ok (.bipush 64, 2) := by decide +kernel
theorem dX0_set_33 : decode cX0_set 33 = .ok (.if_icmp .ge 20, 3) := by decide +kernel
theorem dX0_set_36 : decode cX0_set 36 = .ok (.aload_n 0, 1) := by decide +kernel
theorem dX0_set_37 : decode cX0_set 37 = .ok (.iload_n 3, 1) := by decide +kernel
theorem dX0_set_38 : decode cX0_set 38 = .ok (.iload_n 3, 1) := by decide +kernel
theorem dX0_set_39 : decode cX0_set 39 = .ok (.iload_n 1, 1) := by decide +kernel
theorem dX0_set_40 : decode cX0_set 40 = .ok (.iload_n 2, 1) := by decide +kernel
theorem dX0_set_41 : decode cX0_set 41 = .ok (.invokestatic 62, 3) := by decide +kernel
theorem dX0_set_44 : decode cX0_set 44 = .ok (.invokevirtual 66, 3) := by decide +kernel
theorem dX0_set_47 : decode cX0_set 47 = .ok (.iinc 3 1, 3) := by decide +kernel
theorem dX0_set_50 : decode cX0_set 50 = .ok (.goto (-20), 3) := by decide +kernel
theorem dX0_set_53 : decode cX0_set 53 = .ok (.aload_n 0, 1) := by decide +kernel
theorem dX0_set_54 : decode cX0_set 54 = .ok (.invokevirtual 70, 3) := by decide +kernel
theorem dX0_set_57 : decode cX0_set 57 = .ok (.ireturn, 1) := by decide +kernel
set_option maxRecDepth 20000 in
theorem ggX0_join_X0_isQuestion : GoodIn wsX0_join wsX0_isQuestion := goodIn_r _ [5, 6, 34, 35, 36, 37, 38, 39, 40, 41] (by decide +kernel) (by decide +kernel)
set_option maxRecDepth 20000 in
theorem gX0_join_X0_isQuestion : GoodIn wsX0_join (wsV RX0 74 RX0 yX0_isQuestion wsX0_isQuestion) := goodIn_app (goodIn_of _ (by decide +kernel)) ggX0_join_X0_isQuestion
set_option maxRecDepth 20000 in
theorem ggX0_join_X0_isFull : GoodIn wsX0_join wsX0_isFull := goodIn_r _ [10, 6, 34, 35, 36, 37, 38, 39, 40, 41] (by decide +kernel) (by decide +kernel)
set_option maxRecDepth 20000 in
theorem gX0_join_X0_isFull : GoodIn wsX0_join (wsV RX0 58 RX0 yX0_isFull wsX0_isFull) := goodIn_app (goodIn_of _ (by decide +kernel)) ggX0_join_X0_isFull
set_option maxRecDepth 20000 in
theorem ggX0_join_X0_blockOf : GoodIn wsX0_join wsX0_blockOf := goodIn_r _ [14, 15, 1, 2, 3, 4, 5, 6, 16, 17, 18, 34, 35, 36, 37, 38, 39, 40, 41] (by decide +kernel) (by decide +kernel)
set_option maxRecDepth 20000 in
theorem gX0_join_X0_blockOf : GoodIn wsX0_join (wsV RX0 77 RX0 yX0_blockOf wsX0_blockOf) := goodIn_app (goodIn_of _ (by decide +kernel)) ggX0_join_X0_blockOf
set_option maxRecDepth 20000 in
theorem ggX0_join_X0_joined : GoodIn wsX0_join wsX0_joined := goodIn_r _ [21, 22] (by decide +kernel) (by decide +kernel)
set_option maxRecDepth 20000 in
theorem gX0_join_X0_joined : GoodIn wsX0_join (va_wsS RX0 81 yX0_joined wsX0_joined) := goodIn_app (goodIn_of _ (by decide +kernel)) ggX0_join_X0_joined
set_option maxRecDepth 20000 in
theorem ggX0_join_X0_putNextBlock : GoodIn wsX0_join wsX0_putNextBlock := goodIn_r _ [26, 15, 6, 27, 28, 4, 29, 34, 35, 36, 37, 38, 39, 40, 41] (by decide +kernel) (by decide +kernel)
set_option maxRecDepth 20000 in
theorem gX0_join_X0_putNextBlock : GoodIn wsX0_join (wsV RX0 66 RX0 yX0_putNextBlock wsX0_putNextBlock) := goodIn_app (goodIn_of _ (by decide +kernel)) ggX0_join_X0_putNextBlock
set_option maxRecDepth 20000 in
theorem ggX0_join_X0_keepNext : GoodIn wsX0_join wsX0_keepNext := goodIn_r _ [33, 6, 34, 35, 36, 37, 38, 39, 40, 41] (by decide +kernel) (by decide +kernel)
set_option maxRecDepth 20000 in
theorem gX0_join_X0_keepNext : GoodIn wsX0_join (wsV RX0 70 RX0 yX0_keepNext wsX0_keepNext) := goodIn_app (goodIn_of _ (by decide +kernel)) ggX0_join_X0_keepNext
theorem dX0_join_0 : decode cX0_join 0 = .ok (.iload_n 1, 1) := by decide +kernel
theorem dX0_join_1 : decode cX0_join 1 = .ok (.ifCond .lt 16, 3) := by decide +kernel
theorem dX0_join_4 : decode cX0_join 4 = .ok (.iload_n 1, 1) := by decide +kernel
theorem dX0_join_5 : decode cX0_join 5 = .ok (.iconst 3, 1) := by decide +kernel
theorem dX0_join_6 : decode cX0_join 6 = .ok (.if_icmp .gt 11, 3) := by decide +kernel
theorem dX0_join_9 : decode cX0_join 9 = .ok (.aload_n 0, 1) := by decide +kernel
theorem dX0_join_10 : decode cX0_join 10 = .ok (.iload_n 2, 1) := by decide +kernel
theorem dX0_join_11 : decode cX0_join 11 = .ok (.invokevirtual 74, 3) := by decide +kernel
theorem dX0_join_14 : decode cX0_join 14 = .ok (.ifCond .ne 5, 3) := by decide +kernel
theorem dX0_join_17 : decode cX0_join 17 = .ok (.iconst (-1), 1) := by decide +kernel
theorem dX0_join_18 : decode cX0_join 18 = .ok (.ireturn, 1) := by decide +kernel
theorem dX0_join_19 : decode cX0_join 19 = .ok (.iload_n 1, 1) := by decide +kernel
theorem dX0_join_20 : decode cX0_join 20 = .ok (.iconst 3, 1) := by decide +kernel
theorem dX0_join_21 : decode cX0_join 21 = .ok (.if_icmp .eq 13, 3) := by decide +kernel
theorem dX0_join_24 : decode cX0_join 24 = .ok (.aload_n 0, 1) := by decide +kernel
theorem dX0_join_25 : decode cX0_join 25 = .ok (.iload_n 3, 1) := by decide +kernel
theorem dX0_join_26 : decode cX0_join 26 = .ok (.invokevirtual 74, 3) := by decide +kernel
theorem dX0_join_29 : decode cX0_join 29 = .ok (.ifCond .ne 5, 3) := by decide +kernel
theorem dX0_join_32 : decode cX0_join 32 = .ok (.iconst (-1), 1) := by decide +kernel
theorem dX0_join_33 : decode cX0_join 33 = .ok (.ireturn, 1) := by decide +kernel
theorem dX0_join_34 : decode cX0_join 34 = .ok (.aload_n 0, 1) := by decide +kernel
theorem dX0_join_35 : decode cX0_join 35 = .ok (.invokevirtual 58, 3) := by decide +kernel
theorem dX0_join_38 : decode cX0_join 38 = .ok (.ifCond .eq 6, 3) := by decide +kernel
theorem dX0_join_41 : decode cX0_join 41 = .ok (.bipush (-3), 2) := by decide +kernel
theorem dX0_join_43 : decode cX0_join 43 = .ok (.ireturn, 1) := by decide +kernel
theorem dX0_join_44 : decode cX0_join 44 = .ok (.iconst 0, 1) := by decide +kernel
theorem dX0_join_45 : decode cX0_join 45 = .ok (.istore 4, 2) := by decide +kernel
theorem dX0_join_47 : decode cX0_join 47 = .ok (.iload 4, 2) := by decide +kernel
theorem dX0_join_49 : decode cX0_join 49 = .ok (.bipush 64, 2) := by decide +kernel
theorem dX0_join_51 : decode cX0_join 51 = .ok (.if_icmp .ge 33, 3) := by decide +kernel
theorem dX0_join_54 : decode cX0_join 54 = .ok (.aload_n 0, 1) := by decide +kernel
theorem dX0_join_55 : decode cX0_join 55 = .ok (.iload 4, 2) := by decide +kernel
theorem dX0_join_57 : decode cX0_join 57 = .ok (.iload_n 1, 1) := by decide +kernel
theorem dX0_join_58 : decode cX0_join 58 = .ok (.aload_n 0, 1) := by decide +kernel
theorem dX0_join_59 : decode cX0_join 59 = .ok (.iload_n 2, 1) := by decide +kernel
theorem dX0_join_60 : decode cX0_join 60 = .ok (.iload 4, 2) := by decide +kernel
theorem dX0_join_62 : decode cX0_join 62 = .ok (.invokevirtual 77, 3) := by decide +kernel
theorem dX0_join_65 : decode cX0_join 65 = .ok (.aload_n 0, 1) := by decide +kernel
theorem dX0_join_66 : decode cX0_join 66 = .ok (.iload_n 3, 1) := by decide +kernel
theorem dX0_join_67 : decode cX0_join 67 = .ok (.iload 4, 2) := by decide +kernel
theorem dX0_join_69 : decode cX0_join 69 = .ok (.invokevirtual 77, 3) := by decide +kernel
theorem dX0_join_72 : decode cX0_join 72 = .ok (.invokestatic 81, 3) := by decide +kernel
theorem dX0_join_75 : decode cX0_join 75 = .ok (.invokevirtual 66, 3) := by decide +kernel
theorem dX0_join_78 : decode cX0_join 78 = .ok (.iinc 4 1, 3) := by decide +kernel
theorem dX0_join_81 : decode cX0_join 81 = .ok (.goto (-34), 3) := by decide +kernel
theorem dX0_join_84 : decode cX0_join 84 = .ok (.aload_n 0, 1) := by decide +kernel
theorem dX0_join_85 : decode cX0_join 85 = .ok (.invokevirtual 70, 3) := by decide +kernel
theorem dX0_join_88 : decode cX0_join 88 = .ok (.ireturn, 1) := by decide +kernel
set_option maxRecDepth 20000 in
theorem ggX0_some_X0_areFacts : GoodIn wsX0_some wsX0_areFacts := goodIn_r _ [5, 6, 7, 8, 4, 9, 10, 38, 39, 40, 41, 42, 43, 44, 45] (by decide +kernel) (by decide +kernel)
set_option maxRecDepth 20000 in
theorem gX0_some_X0_areFacts : GoodIn wsX0_some (wsV RX0 55 RX0 yX0_areFacts wsX0_areFacts) := goodIn_app (goodIn_of _ (by decide +kernel)) ggX0_some_X0_areFacts
set_option maxRecDepth 20000 in
theorem ggX0_some_X0_isFull : GoodIn wsX0_some wsX0_isFull := goodIn_r _ [14, 15, 38, 39, 40, 41, 42, 43, 44, 45] (by decide +kernel) (by decide +kernel)
set_option maxRecDepth 20000 in
theorem gX0_some_X0_isFull : GoodIn wsX0_some (wsV RX0 58 RX0 yX0_isFull wsX0_isFull) := goodIn_app (goodIn_of _ (by decide +kernel)) ggX0_some_X0_isFull
set_option maxRecDepth 20000 in
theorem ggX0_some_X0_someBlock : GoodIn wsX0_some wsX0_someBlock := goodIn_r _ [18, 19, 20, 21, 22, 23, 24, 25] (by decide +kernel) (by decide +kernel)
set_option maxRecDepth 20000 in
theorem gX0_some_X0_someBlock : GoodIn wsX0_some (va_wsS RX0 85 yX0_someBlock wsX0_someBlock) := goodIn_app (goodIn_of _ (by decide +kernel)) ggX0_some_X0_someBlock
set_option maxRecDepth 20000 in
theorem ggX0_some_X0_putNextBlock : GoodIn wsX0_some wsX0_putNextBlock := goodIn_r _ [29, 30, 15, 31, 32, 4, 33, 38, 39, 40, 41, 42, 43, 44, 45] (by decide +kernel) (by decide +kernel)
set_option maxRecDepth 20000 in
theorem gX0_some_X0_putNextBlock : GoodIn wsX0_some (wsV RX0 66 RX0 yX0_putNextBlock wsX0_putNextBlock) := goodIn_app (goodIn_of _ (by decide +kernel)) ggX0_some_X0_putNextBlock
set_option maxRecDepth 20000 in
theorem ggX0_some_X0_keepNext : GoodIn wsX0_some wsX0_keepNext := goodIn_r _ [37, 15, 38, 39, 40, 41, 42, 43, 44, 45] (by decide +kernel) (by decide +kernel)
set_option maxRecDepth 20000 in
theorem gX0_some_X0_keepNext : GoodIn wsX0_some (wsV RX0 70 RX0 yX0_keepNext wsX0_keepNext) := goodIn_app (goodIn_of _ (by decide +kernel)) ggX0_some_X0_keepNext
theorem dX0_some_0 : decode cX0_some 0 = .ok (.aload_n 0, 1) := by decide +kernel
theorem dX0_some_1 : decode cX0_some 1 = .ok (.iload_n 1, 1) := by decide +kernel
theorem dX0_some_2 : decode cX0_some 2 = .ok (.invokevirtual 55, 3) := by decide +kernel
theorem dX0_some_5 : decode cX0_some 5 = .ok (.ifCond .ne 5, 3) := by decide +kernel
theorem dX0_some_8 : decode cX0_some 8 = .ok (.iconst (-1), 1) := by decide +kernel
theorem dX0_some_9 : decode cX0_some 9 = .ok (.ireturn, 1) := by decide +kernel
theorem dX0_some_10 : decode cX0_some 10 = .ok (.aload_n 0, 1) := by decide +kernel
theorem dX0_some_11 : decode cX0_some 11 = .ok (.invokevirtual 58, 3) := by decide +kernel
theorem dX0_some_14 : decode cX0_some 14 = .ok (.ifCond .eq 6, 3) := by decide +kernel
theorem dX0_some_17 : decode cX0_some 17 = .ok (.bipush (-3), 2) := by decide +kernel
theorem dX0_some_19 : decode cX0_some 19 = .ok (.ireturn, 1) := by decide +kernel
theorem dX0_some_20 : decode cX0_some 20 = .ok (.iconst 0, 1) := by decide +kernel
theorem dX0_some_21 : decode cX0_some 21 = .ok (.istore 4, 2) := by decide +kernel
theorem dX0_some_23 : decode cX0_some 23 = .ok (.iload 4, 2) := by decide +kernel
theorem dX0_some_25 : decode cX0_some 25 = .ok (.bipush 64, 2) := by decide +kernel
theorem dX0_some_27 : decode cX0_some 27 = .ok (.if_icmp .ge 23, 3) := by decide +kernel
theorem dX0_some_30 : decode cX0_some 30 = .ok (.aload_n 0, 1) := by decide +kernel
theorem dX0_some_31 : decode cX0_some 31 = .ok (.iload 4, 2) := by decide +kernel
theorem dX0_some_33 : decode cX0_some 33 = .ok (.iload 4, 2) := by decide +kernel
theorem dX0_some_35 : decode cX0_some 35 = .ok (.iload_n 1, 1) := by decide +kernel
theorem dX0_some_36 : decode cX0_some 36 = .ok (.iload_n 2, 1) := by decide +kernel
theorem dX0_some_37 : decode cX0_some 37 = .ok (.iload_n 3, 1) := by decide +kernel
theorem dX0_some_38 : decode cX0_some 38 = .ok (.invokestatic 85, 3) := by decide +kernel
theorem dX0_some_41 : decode cX0_some 41 = .ok (.invokevirtual 66, 3) := by decide +kernel
theorem dX0_some_44 : decode cX0_some 44 = .ok (.iinc 4 1, 3) := by decide +kernel
theorem dX0_some_47 : decode cX0_some 47 = .ok (.goto (-24), 3) := by decide +kernel
theorem dX0_some_50 : decode cX0_some 50 = .ok (.aload_n 0, 1) := by decide +kernel
theorem dX0_some_51 : decode cX0_some 51 = .ok (.invokevirtual 70, 3) := by decide +kernel
theorem dX0_some_54 : decode cX0_some 54 = .ok (.ireturn, 1) := by decide +kernel
set_option maxRecDepth 20000 in
theorem ggX0_holds_X0_isQuestion : GoodIn wsX0_holds wsX0_isQuestion := goodIn_r _ [5, 6, 27, 28, 29, 30, 31, 32, 33, 34] (by decide +kernel) (by decide +kernel)
set_option maxRecDepth 20000 in
theorem gX0_holds_X0_isQuestion : GoodIn wsX0_holds (wsV RX0 74 RX0 yX0_isQuestion wsX0_isQuestion) := goodIn_app (goodIn_of _ (by decide +kernel)) ggX0_holds_X0_isQuestion
set_option maxRecDepth 20000 in
theorem ggX0_holds_X0_allFacts : GoodIn wsX0_holds wsX0_allFacts := goodIn_r _ [10, 11, 27, 28, 29, 30, 31, 32, 33, 34] (by decide +kernel) (by decide +kernel)
set_option maxRecDepth 20000 in
theorem gX0_holds_X0_allFacts : GoodIn wsX0_holds (wsV RX0 89 RX0 yX0_allFacts wsX0_allFacts) := goodIn_app (goodIn_of _ (by decide +kernel)) ggX0_holds_X0_allFacts
set_option maxRecDepth 20000 in
theorem ggX0_holds_X0_isTrue : GoodIn wsX0_holds wsX0_isTrue := goodIn_r _ [15, 16, 17, 18, 4, 19, 20, 1, 2, 3, 5, 6, 21, 22, 23, 24, 25, 26, 27, 28, 29, 30, 31, 32, 33, 34] (by decide +kernel) (by decide +kernel)
set_option maxRecDepth 20000 in
theorem gX0_holds_X0_isTrue : GoodIn wsX0_holds (wsV RX0 92 RX0 yX0_isTrue wsX0_isTrue) := goodIn_app (goodIn_of _ (by decide +kernel)) ggX0_holds_X0_isTrue
theorem dX0_holds_0 : decode cX0_holds 0 = .ok (.aload_n 0, 1) := by decide +kernel
theorem dX0_holds_1 : decode cX0_holds 1 = .ok (.iload_n 1, 1) := by decide +kernel
theorem dX0_holds_2 : decode cX0_holds 2 = .ok (.invokevirtual 74, 3) := by decide +kernel
theorem dX0_holds_5 : decode cX0_holds 5 = .ok (.ifCond .ne 5, 3) := by decide +kernel
theorem dX0_holds_8 : decode cX0_holds 8 = .ok (.iconst (-1), 1) := by decide +kernel
theorem dX0_holds_9 : decode cX0_holds 9 = .ok (.ireturn, 1) := by decide +kernel
theorem dX0_holds_10 : decode cX0_holds 10 = .ok (.aload_n 0, 1) := by decide +kernel
theorem dX0_holds_11 : decode cX0_holds 11 = .ok (.iload_n 1, 1) := by decide +kernel
theorem dX0_holds_12 : decode cX0_holds 12 = .ok (.iload_n 2, 1) := by decide +kernel
theorem dX0_holds_13 : decode cX0_holds 13 = .ok (.aload_n 0, 1) := by decide +kernel
theorem dX0_holds_14 : decode cX0_holds 14 = .ok (.invokevirtual 89, 3) := by decide +kernel
theorem dX0_holds_17 : decode cX0_holds 17 = .ok (.iand, 1) := by decide +kernel
theorem dX0_holds_18 : decode cX0_holds 18 = .ok (.invokevirtual 92, 3) := by decide +kernel
theorem dX0_holds_21 : decode cX0_holds 21 = .ok (.ifCond .eq 7, 3) := by decide +kernel
theorem dX0_holds_24 : decode cX0_holds 24 = .ok (.iconst 1, 1) := by decide +kernel
theorem dX0_holds_25 : decode cX0_holds 25 = .ok (.goto 4, 3) := by decide +kernel
theorem dX0_holds_28 : decode cX0_holds 28 = .ok (.iconst 0, 1) := by decide +kernel
theorem dX0_holds_29 : decode cX0_holds 29 = .ok (.ireturn, 1) := by decide +kernel
set_option maxRecDepth 20000 in
theorem ggX0_chance_X0_isQuestion : GoodIn wsX0_chance wsX0_isQuestion := goodIn_r _ [6, 7, 44, 45, 46, 47, 48, 49, 50, 51] (by decide +kernel) (by decide +kernel)
set_option maxRecDepth 20000 in
theorem gX0_chance_X0_isQuestion : GoodIn wsX0_chance (wsV RX0 74 RX0 yX0_isQuestion wsX0_isQuestion) := goodIn_app (goodIn_of _ (by decide +kernel)) ggX0_chance_X0_isQuestion
set_option maxRecDepth 20000 in
theorem ggX0_chance_X0_isPart : GoodIn wsX0_chance wsX0_isPart := goodIn_r _ [10] (by decide +kernel) (by decide +kernel)
set_option maxRecDepth 20000 in
theorem gX0_chance_X0_isPart : GoodIn wsX0_chance (va_wsS RX0 95 yX0_isPart wsX0_isPart) := goodIn_app (goodIn_of _ (by decide +kernel)) ggX0_chance_X0_isPart
set_option maxRecDepth 20000 in
theorem ggX0_chance_X0_sumOfBoth : GoodIn wsX0_chance wsX0_sumOfBoth := goodIn_r _ [14, 15, 16, 17, 5, 18, 19, 20, 21, 22, 23, 2, 3, 4, 6, 7, 24, 25, 26, 27, 28, 29, 30, 31, 44, 45, 46, 47, 48, 49, 50, 51] (by decide +kernel) (by decide +kernel)
set_option maxRecDepth 20000 in
theorem gX0_chance_X0_sumOfBoth : GoodIn wsX0_chance (wsV RX0 100 RX0 yX0_sumOfBoth wsX0_sumOfBoth) := goodIn_app (goodIn_of _ (by decide +kernel)) ggX0_chance_X0_sumOfBoth
set_option maxRecDepth 20000 in
theorem ggX0_chance_X0_allBut : GoodIn wsX0_chance wsX0_allBut := goodIn_r _ [35, 36, 37, 16, 17, 5, 18, 44, 45, 46, 47, 48, 49, 50, 51] (by decide +kernel) (by decide +kernel)
set_option maxRecDepth 20000 in
theorem gX0_chance_X0_allBut : GoodIn wsX0_chance (wsV RX0 103 RX0 yX0_allBut wsX0_allBut) := goodIn_app (goodIn_of _ (by decide +kernel)) ggX0_chance_X0_allBut
set_option maxRecDepth 20000 in
theorem ggX0_chance_X0_lowestPart : GoodIn wsX0_chance wsX0_lowestPart := goodIn_r _ [40, 41, 42, 5, 43] (by decide +kernel) (by decide +kernel)
set_option maxRecDepth 20000 in
theorem gX0_chance_X0_lowestPart : GoodIn wsX0_chance (va_wsS RX0 107 yX0_lowestPart wsX0_lowestPart) := goodIn_app (goodIn_of _ (by decide +kernel)) ggX0_chance_X0_lowestPart
theorem dX0_chance_0 : decode cX0_chance 0 = .ok (.aload_n 0, 1) := by decide +kernel
theorem dX0_chance_1 : decode cX0_chance 1 = .ok (.iload_n 1, 1) := by decide +kernel
theorem dX0_chance_2 : decode cX0_chance 2 = .ok (.invokevirtual 74, 3) := by decide +kernel
theorem dX0_chance_5 : decode cX0_chance 5 = .ok (.ifCond .eq 10, 3) := by decide +kernel
theorem dX0_chance_8 : decode cX0_chance 8 = .ok (.iload_n 2, 1) := by decide +kernel
theorem dX0_chance_9 : decode cX0_chance 9 = .ok (.invokestatic 95, 3) := by decide +kernel
theorem dX0_chance_12 : decode cX0_chance 12 = .ok (.ifCond .ne 7, 3) := by decide +kernel
theorem dX0_chance_15 : decode cX0_chance 15 = .ok (.ldc2_w 98, 3) := by decide +kernel
theorem dX0_chance_18 : decode cX0_chance 18 = .ok (.lreturn, 1) := by decide +kernel
theorem dX0_chance_19 : decode cX0_chance 19 = .ok (.aload_n 0, 1) := by decide +kernel
theorem dX0_chance_20 : decode cX0_chance 20 = .ok (.iload_n 1, 1) := by decide +kernel
theorem dX0_chance_21 : decode cX0_chance 21 = .ok (.iload_n 1, 1) := by decide +kernel
theorem dX0_chance_22 : decode cX0_chance 22 = .ok (.invokevirtual 100, 3) := by decide +kernel
theorem dX0_chance_25 : decode cX0_chance 25 = .ok (.aload_n 0, 1) := by decide +kernel
theorem dX0_chance_26 : decode cX0_chance 26 = .ok (.iconst (-1), 1) := by decide +kernel
theorem dX0_chance_27 : decode cX0_chance 27 = .ok (.invokevirtual 103, 3) := by decide +kernel
theorem dX0_chance_30 : decode cX0_chance 30 = .ok (.iload_n 2, 1) := by decide +kernel
theorem dX0_chance_31 : decode cX0_chance 31 = .ok (.invokestatic 107, 3) := by decide +kernel
theorem dX0_chance_34 : decode cX0_chance 34 = .ok (.lreturn, 1) := by decide +kernel
set_option maxRecDepth 20000 in
theorem ggX0_real_X0_isQuestion : GoodIn wsX0_real wsX0_isQuestion := goodIn_r _ [6, 7, 35, 36, 37, 38, 39, 40, 41, 42] (by decide +kernel) (by decide +kernel)
set_option maxRecDepth 20000 in
theorem gX0_real_X0_isQuestion : GoodIn wsX0_real (wsV RX0 74 RX0 yX0_isQuestion wsX0_isQuestion) := goodIn_app (goodIn_of _ (by decide +kernel)) ggX0_real_X0_isQuestion
set_option maxRecDepth 20000 in
theorem ggX0_real_X0_sumOfBoth : GoodIn wsX0_real wsX0_sumOfBoth := goodIn_r _ [11, 12, 13, 14, 5, 15, 16, 17, 18, 19, 20, 2, 3, 4, 6, 7, 21, 22, 23, 24, 25, 26, 27, 28, 35, 36, 37, 38, 39, 40, 41, 42] (by decide +kernel) (by decide +kernel)
set_option maxRecDepth 20000 in
theorem gX0_real_X0_sumOfBoth : GoodIn wsX0_real (wsV RX0 100 RX0 yX0_sumOfBoth wsX0_sumOfBoth) := goodIn_app (goodIn_of _ (by decide +kernel)) ggX0_real_X0_sumOfBoth
set_option maxRecDepth 20000 in
theorem ggX0_real_X0_allBut : GoodIn wsX0_real wsX0_allBut := goodIn_r _ [32, 33, 34, 13, 14, 5, 15, 35, 36, 37, 38, 39, 40, 41, 42] (by decide +kernel) (by decide +kernel)
set_option maxRecDepth 20000 in
theorem gX0_real_X0_allBut : GoodIn wsX0_real (wsV RX0 103 RX0 yX0_allBut wsX0_allBut) := goodIn_app (goodIn_of _ (by decide +kernel)) ggX0_real_X0_allBut
theorem dX0_real_0 : decode cX0_real 0 = .ok (.aload_n 0, 1) := by decide +kernel
theorem dX0_real_1 : decode cX0_real 1 = .ok (.iload_n 1, 1) := by decide +kernel
theorem dX0_real_2 : decode cX0_real 2 = .ok (.invokevirtual 74, 3) := by decide +kernel
theorem dX0_real_5 : decode cX0_real 5 = .ok (.ifCond .ne 7, 3) := by decide +kernel
theorem dX0_real_8 : decode cX0_real 8 = .ok (.ldc2_w 111, 3) := by decide +kernel
theorem dX0_real_11 : decode cX0_real 11 = .ok (.dreturn, 1) := by decide +kernel
theorem dX0_real_12 : decode cX0_real 12 = .ok (.aload_n 0, 1) := by decide +kernel
theorem dX0_real_13 : decode cX0_real 13 = .ok (.iload_n 1, 1) := by decide +kernel
theorem dX0_real_14 : decode cX0_real 14 = .ok (.iload_n 1, 1) := by decide +kernel
theorem dX0_real_15 : decode cX0_real 15 = .ok (.invokevirtual 100, 3) := by decide +kernel
theorem dX0_real_18 : decode cX0_real 18 = .ok (.l2d, 1) := by decide +kernel
theorem dX0_real_19 : decode cX0_real 19 = .ok (.dstore_n 2, 1) := by decide +kernel
theorem dX0_real_20 : decode cX0_real 20 = .ok (.aload_n 0, 1) := by decide +kernel
theorem dX0_real_21 : decode cX0_real 21 = .ok (.iconst (-1), 1) := by decide +kernel
theorem dX0_real_22 : decode cX0_real 22 = .ok (.invokevirtual 103, 3) := by decide +kernel
theorem dX0_real_25 : decode cX0_real 25 = .ok (.l2d, 1) := by decide +kernel
theorem dX0_real_26 : decode cX0_real 26 = .ok (.dstore 4, 2) := by decide +kernel
theorem dX0_real_28 : decode cX0_real 28 = .ok (.dload 4, 2) := by decide +kernel
theorem dX0_real_30 : decode cX0_real 30 = .ok (.dconst 0, 1) := by decide +kernel
theorem dX0_real_31 : decode cX0_real 31 = .ok (.dcmp .l, 1) := by decide +kernel
theorem dX0_real_32 : decode cX0_real 32 = .ok (.ifCond .le 10, 3) := by decide +kernel
theorem dX0_real_35 : decode cX0_real 35 = .ok (.dload_n 2, 1) := by decide +kernel
theorem dX0_real_36 : decode cX0_real 36 = .ok (.dload 4, 2) := by decide +kernel
theorem dX0_real_38 : decode cX0_real 38 = .ok (.ddiv, 1) := by decide +kernel
theorem dX0_real_39 : decode cX0_real 39 = .ok (.goto 6, 3) := by decide +kernel
theorem dX0_real_42 : decode cX0_real 42 = .ok (.ldc2_w 111, 3) := by decide +kernel
theorem dX0_real_45 : decode cX0_real 45 = .ok (.dreturn, 1) := by decide +kernel
set_option maxRecDepth 20000 in
theorem ggX0_given_X0_isQuestion : GoodIn wsX0_given wsX0_isQuestion := goodIn_r _ [8, 9, 31, 32, 33, 34, 35, 36, 37, 38] (by decide +kernel) (by decide +kernel)
set_option maxRecDepth 20000 in
theorem gX0_given_X0_isQuestion : GoodIn wsX0_given (wsV RX0 74 RX0 yX0_isQuestion wsX0_isQuestion) := goodIn_app (goodIn_of _ (by decide +kernel)) ggX0_given_X0_isQuestion
set_option maxRecDepth 20000 in
theorem ggX0_given_X0_sumOfBoth : GoodIn wsX0_given wsX0_sumOfBoth := goodIn_r _ [13, 14, 15, 16, 7, 17, 18, 19, 20, 21, 22, 4, 5, 6, 8, 9, 23, 24, 25, 26, 27, 28, 29, 30, 31, 32, 33, 34, 35, 36, 37, 38] (by decide +kernel) (by decide +kernel)
set_option maxRecDepth 20000 in
theorem gX0_given_X0_sumOfBoth : GoodIn wsX0_given (wsV RX0 100 RX0 yX0_sumOfBoth wsX0_sumOfBoth) := goodIn_app (goodIn_of _ (by decide +kernel)) ggX0_given_X0_sumOfBoth
theorem dX0_given_0 : decode cX0_given 0 = .ok (.aload_n 0, 1) := by decide +kernel
theorem dX0_given_1 : decode cX0_given 1 = .ok (.iload_n 1, 1) := by decide +kernel
theorem dX0_given_2 : decode cX0_given 2 = .ok (.invokevirtual 74, 3) := by decide +kernel
theorem dX0_given_5 : decode cX0_given 5 = .ok (.ifCond .eq 11, 3) := by decide +kernel
theorem dX0_given_8 : decode cX0_given 8 = .ok (.aload_n 0, 1) := by decide +kernel
theorem dX0_given_9 : decode cX0_given 9 = .ok (.iload_n 2, 1) := by decide +kernel
theorem dX0_given_10 : decode cX0_given 10 = .ok (.invokevirtual 74, 3) := by decide +kernel
theorem dX0_given_13 : decode cX0_given 13 = .ok (.ifCond .ne 5, 3) := by decide +kernel
theorem dX0_given_16 : decode cX0_given 16 = .ok (.lconst 0, 1) := by decide +kernel
theorem dX0_given_17 : decode cX0_given 17 = .ok (.lreturn, 1) := by decide +kernel
theorem dX0_given_18 : decode cX0_given 18 = .ok (.aload_n 0, 1) := by decide +kernel
theorem dX0_given_19 : decode cX0_given 19 = .ok (.iload_n 2, 1) := by decide +kernel
theorem dX0_given_20 : decode cX0_given 20 = .ok (.iload_n 2, 1) := by decide +kernel
theorem dX0_given_21 : decode cX0_given 21 = .ok (.invokevirtual 100, 3) := by decide +kernel
theorem dX0_given_24 : decode cX0_given 24 = .ok (.lstore_n 3, 1) := by decide +kernel
theorem dX0_given_25 : decode cX0_given 25 = .ok (.lload_n 3, 1) := by decide +kernel
theorem dX0_given_26 : decode cX0_given 26 = .ok (.lconst 0, 1) := by decide +kernel
theorem dX0_given_27 : decode cX0_given 27 = .ok (.lcmp, 1) := by decide +kernel
theorem dX0_given_28 : decode cX0_given 28 = .ok (.ifCond .ne 13, 3) := by decide +kernel
theorem dX0_given_31 : decode cX0_given 31 = .ok (.new 113, 3) := by decide +kernel
theorem dX0_given_34 : decode cX0_given 34 = .ok (.dup, 1) := by decide +kernel
theorem dX0_given_35 : decode cX0_given 35 = .ok (.ldc 115, 2) := by decide +kernel
theorem dX0_given_37 : decode cX0_given 37 = .ok (.invokespecial 117, 3) := by decide +kernel
theorem dX0_given_40 : decode cX0_given 40 = .ok (.athrow, 1) := by decide +kernel
theorem dX0_given_41 : decode cX0_given 41 = .ok (.ldc2_w 120, 3) := by decide +kernel
theorem dX0_given_44 : decode cX0_given 44 = .ok (.aload_n 0, 1) := by decide +kernel
theorem dX0_given_45 : decode cX0_given 45 = .ok (.iload_n 1, 1) := by decide +kernel
theorem dX0_given_46 : decode cX0_given 46 = .ok (.iload_n 2, 1) := by decide +kernel
theorem dX0_given_47 : decode cX0_given 47 = .ok (.invokevirtual 100, 3) := by decide +kernel
theorem dX0_given_50 : decode cX0_given 50 = .ok (.lmul, 1) := by decide +kernel
theorem dX0_given_51 : decode cX0_given 51 = .ok (.lload_n 3, 1) := by decide +kernel
theorem dX0_given_52 : decode cX0_given 52 = .ok (.ldiv, 1) := by decide +kernel
theorem dX0_given_53 : decode cX0_given 53 = .ok (.lreturn, 1) := by decide +kernel
set_option maxRecDepth 20000 in
theorem ggX0_influence_X0_isQuestion : GoodIn wsX0_influence wsX0_isQuestion := goodIn_r _ [5, 6, 67, 68, 69, 70, 71, 72, 73, 74] (by decide +kernel) (by decide +kernel)
set_option maxRecDepth 20000 in
theorem gX0_influence_X0_isQuestion : GoodIn wsX0_influence (wsV RX0 74 RX0 yX0_isQuestion wsX0_isQuestion) := goodIn_app (goodIn_of _ (by decide +kernel)) ggX0_influence_X0_isQuestion
set_option maxRecDepth 20000 in
theorem ggX0_influence_X0_isFact : GoodIn wsX0_influence wsX0_isFact := goodIn_r _ [10, 11, 67, 68, 69, 70, 71, 72, 73, 74] (by decide +kernel) (by decide +kernel)
set_option maxRecDepth 20000 in
theorem gX0_influence_X0_isFact : GoodIn wsX0_influence (wsV RX0 51 RX0 yX0_isFact wsX0_isFact) := goodIn_app (goodIn_of _ (by decide +kernel)) ggX0_influence_X0_isFact
set_option maxRecDepth 20000 in
theorem ggX0_influence_X0_isPart : GoodIn wsX0_influence wsX0_isPart := goodIn_r _ [14] (by decide +kernel) (by decide +kernel)
set_option maxRecDepth 20000 in
theorem gX0_influence_X0_isPart : GoodIn wsX0_influence (va_wsS RX0 95 yX0_isPart wsX0_isPart) := goodIn_app (goodIn_of _ (by decide +kernel)) ggX0_influence_X0_isPart
set_option maxRecDepth 20000 in
theorem ggX0_influence_X0_sumWhenSurely : GoodIn wsX0_influence wsX0_sumWhenSurely := goodIn_r _ [18, 19, 20, 21, 22, 4, 23, 24, 25, 26, 27, 28, 29, 30, 31, 32, 33, 34, 35, 36, 37, 38, 39, 40, 41, 42, 43, 44, 45, 46, 47, 48, 49, 1, 2, 3, 5, 6, 50, 51, 52, 53, 54, 55, 56, 67, 68, 69, 70, 71, 72, 73, 74] (by decide +kernel) (by decide +kernel)
set_option maxRecDepth 20000 in
theorem gX0_influence_X0_sumWhenSurely : GoodIn wsX0_influence (wsV RX0 122 RX0 yX0_sumWhenSurely wsX0_sumWhenSurely) := goodIn_app (goodIn_of _ (by decide +kernel)) ggX0_influence_X0_sumWhenSurely
set_option maxRecDepth 20000 in
theorem ggX0_influence_X0_allBut : GoodIn wsX0_influence wsX0_allBut := goodIn_r _ [60, 11, 20, 21, 22, 4, 23, 67, 68, 69, 70, 71, 72, 73, 74] (by decide +kernel) (by decide +kernel)
set_option maxRecDepth 20000 in
theorem gX0_influence_X0_allBut : GoodIn wsX0_influence (wsV RX0 103 RX0 yX0_allBut wsX0_allBut) := goodIn_app (goodIn_of _ (by decide +kernel)) ggX0_influence_X0_allBut
set_option maxRecDepth 20000 in
theorem ggX0_influence_X0_lowestPart : GoodIn wsX0_influence wsX0_lowestPart := goodIn_r _ [63, 64, 65, 4, 66] (by decide +kernel) (by decide +kernel)
set_option maxRecDepth 20000 in
theorem gX0_influence_X0_lowestPart : GoodIn wsX0_influence (va_wsS RX0 107 yX0_lowestPart wsX0_lowestPart) := goodIn_app (goodIn_of _ (by decide +kernel)) ggX0_influence_X0_lowestPart
theorem dX0_influence_0 : decode cX0_influence 0 = .ok (.aload_n 0, 1) := by decide +kernel
theorem dX0_influence_1 : decode cX0_influence 1 = .ok (.iload_n 1, 1) := by decide +kernel
theorem dX0_influence_2 : decode cX0_influence 2 = .ok (.invokevirtual 74, 3) := by decide +kernel
theorem dX0_influence_5 : decode cX0_influence 5 = .ok (.ifCond .eq 18, 3) := by decide +kernel
theorem dX0_influence_8 : decode cX0_influence 8 = .ok (.aload_n 0, 1) := by decide +kernel
theorem dX0_influence_9 : decode cX0_influence 9 = .ok (.iload_n 2, 1) := by decide +kernel
theorem dX0_influence_10 : decode cX0_influence 10 = .ok (.invokevirtual 51, 3) := by decide +kernel
theorem dX0_influence_13 : decode cX0_influence 13 = .ok (.ifCond .eq 10, 3) := by decide +kernel
theorem dX0_influence_16 : decode cX0_influence 16 = .ok (.iload_n 3, 1) := by decide +kernel
theorem dX0_influence_17 : decode cX0_influence 17 = .ok (.invokestatic 95, 3) := by decide +kernel
theorem dX0_influence_20 : decode cX0_influence 20 = .ok (.ifCond .ne 5, 3) := by decide +kernel
theorem dX0_influence_23 : decode cX0_influence 23 = .ok (.lconst 0, 1) := by decide +kernel
theorem dX0_influence_24 : decode cX0_influence 24 = .ok (.lreturn, 1) := by decide +kernel
theorem dX0_influence_25 : decode cX0_influence 25 = .ok (.aload_n 0, 1) := by decide +kernel
theorem dX0_influence_26 : decode cX0_influence 26 = .ok (.iload_n 1, 1) := by decide +kernel
theorem dX0_influence_27 : decode cX0_influence 27 = .ok (.iload_n 2, 1) := by decide +kernel
theorem dX0_influence_28 : decode cX0_influence 28 = .ok (.iconst 1, 1) := by decide +kernel
theorem dX0_influence_29 : decode cX0_influence 29 = .ok (.invokevirtual 122, 3) := by decide +kernel
theorem dX0_influence_32 : decode cX0_influence 32 = .ok (.aload_n 0, 1) := by decide +kernel
theorem dX0_influence_33 : decode cX0_influence 33 = .ok (.iload_n 1, 1) := by decide +kernel
theorem dX0_influence_34 : decode cX0_influence 34 = .ok (.iload_n 2, 1) := by decide +kernel
theorem dX0_influence_35 : decode cX0_influence 35 = .ok (.iconst 0, 1) := by decide +kernel
theorem dX0_influence_36 : decode cX0_influence 36 = .ok (.invokevirtual 122, 3) := by decide +kernel
theorem dX0_influence_39 : decode cX0_influence 39 = .ok (.lsub, 1) := by decide +kernel
theorem dX0_influence_40 : decode cX0_influence 40 = .ok (.lstore 4, 2) := by decide +kernel
theorem dX0_influence_42 : decode cX0_influence 42 = .ok (.lload 4, 2) := by decide +kernel
theorem dX0_influence_44 : decode cX0_influence 44 = .ok (.aload_n 0, 1) := by decide +kernel
theorem dX0_influence_45 : decode cX0_influence 45 = .ok (.iload_n 2, 1) := by decide +kernel
theorem dX0_influence_46 : decode cX0_influence 46 = .ok (.invokevirtual 103, 3) := by decide +kernel
theorem dX0_influence_49 : decode cX0_influence 49 = .ok (.iload_n 3, 1) := by decide +kernel
theorem dX0_influence_50 : decode cX0_influence 50 = .ok (.invokestatic 107, 3) := by decide +kernel
theorem dX0_influence_53 : decode cX0_influence 53 = .ok (.lreturn, 1) := by decide +kernel
set_option maxRecDepth 20000 in
theorem ggX0_hangs_X0_isQuestion : GoodIn wsX0_hangs wsX0_isQuestion := goodIn_r _ [6, 7, 25, 26, 27, 28, 29, 30, 31, 32] (by decide +kernel) (by decide +kernel)
set_option maxRecDepth 20000 in
theorem gX0_hangs_X0_isQuestion : GoodIn wsX0_hangs (wsV RX0 74 RX0 yX0_isQuestion wsX0_isQuestion) := goodIn_app (goodIn_of _ (by decide +kernel)) ggX0_hangs_X0_isQuestion
set_option maxRecDepth 20000 in
theorem ggX0_hangs_X0_hangsOn : GoodIn wsX0_hangs wsX0_hangsOn := goodIn_r _ [11, 12, 13, 14, 5, 15, 16, 17, 18, 19, 20, 21, 2, 3, 4, 6, 7, 22, 23, 24, 25, 26, 27, 28, 29, 30, 31, 32] (by decide +kernel) (by decide +kernel)
set_option maxRecDepth 20000 in
theorem gX0_hangs_X0_hangsOn : GoodIn wsX0_hangs (wsV RX0 125 RX0 yX0_hangsOn wsX0_hangsOn) := goodIn_app (goodIn_of _ (by decide +kernel)) ggX0_hangs_X0_hangsOn
theorem dX0_hangs_0 : decode cX0_hangs 0 = .ok (.aload_n 0, 1) := by decide +kernel
theorem dX0_hangs_1 : decode cX0_hangs 1 = .ok (.iload_n 1, 1) := by decide +kernel
theorem dX0_hangs_2 : decode cX0_hangs 2 = .ok (.invokevirtual 74, 3) := by decide +kernel
theorem dX0_hangs_5 : decode cX0_hangs 5 = .ok (.ifCond .ne 5, 3) := by decide +kernel
theorem dX0_hangs_8 : decode cX0_hangs 8 = .ok (.iconst (-1), 1) := by decide +kernel
theorem dX0_hangs_9 : decode cX0_hangs 9 = .ok (.ireturn, 1) := by decide +kernel
theorem dX0_hangs_10 : decode cX0_hangs 10 = .ok (.iconst 0, 1) := by decide +kernel
theorem dX0_hangs_11 : decode cX0_hangs 11 = .ok (.istore_n 2, 1) := by decide +kernel
theorem dX0_hangs_12 : decode cX0_hangs 12 = .ok (.iconst 0, 1) := by decide +kernel
theorem dX0_hangs_13 : decode cX0_hangs 13 = .ok (.istore_n 3, 1) := by decide +kernel
theorem dX0_hangs_14 : decode cX0_hangs 14 = .ok (.iload_n 3, 1) := by decide +kernel
theorem dX0_hangs_15 : decode cX0_hangs 15 = .ok (.aload_n 0, 1) := by decide +kernel
theorem dX0_hangs_16 : decode cX0_hangs 16 = .ok (.getfield 25, 3) := by decide +kernel
theorem dX0_hangs_19 : decode cX0_hangs 19 = .ok (.if_icmp .ge 24, 3) := by decide +kernel
theorem dX0_hangs_22 : decode cX0_hangs 22 = .ok (.aload_n 0, 1) := by decide +kernel
theorem dX0_hangs_23 : decode cX0_hangs 23 = .ok (.iload_n 1, 1) := by decide +kernel
theorem dX0_hangs_24 : decode cX0_hangs 24 = .ok (.iload_n 3, 1) := by decide +kernel
theorem dX0_hangs_25 : decode cX0_hangs 25 = .ok (.invokevirtual 125, 3) := by decide +kernel
theorem dX0_hangs_28 : decode cX0_hangs 28 = .ok (.ifCond .eq 9, 3) := by decide +kernel
theorem dX0_hangs_31 : decode cX0_hangs 31 = .ok (.iload_n 2, 1) := by decide +kernel
theorem dX0_hangs_32 : decode cX0_hangs 32 = .ok (.iconst 1, 1) := by decide +kernel
theorem dX0_hangs_33 : decode cX0_hangs 33 = .ok (.iload_n 3, 1) := by decide +kernel
theorem dX0_hangs_34 : decode cX0_hangs 34 = .ok (.ishl, 1) := by decide +kernel
theorem dX0_hangs_35 : decode cX0_hangs 35 = .ok (.ior, 1) := by decide +kernel
theorem dX0_hangs_36 : decode cX0_hangs 36 = .ok (.istore_n 2, 1) := by decide +kernel
theorem dX0_hangs_37 : decode cX0_hangs 37 = .ok (.iinc 3 1, 3) := by decide +kernel
theorem dX0_hangs_40 : decode cX0_hangs 40 = .ok (.goto (-26), 3) := by decide +kernel
theorem dX0_hangs_43 : decode cX0_hangs 43 = .ok (.iload_n 2, 1) := by decide +kernel
theorem dX0_hangs_44 : decode cX0_hangs 44 = .ok (.ireturn, 1) := by decide +kernel
set_option maxRecDepth 20000 in
theorem ggX0_likeliest_X0_isQuestion : GoodIn wsX0_likeliest wsX0_isQuestion := goodIn_r _ [5, 6, 34, 35, 36, 37, 38, 39, 40, 41] (by decide +kernel) (by decide +kernel)
set_option maxRecDepth 20000 in
theorem gX0_likeliest_X0_isQuestion : GoodIn wsX0_likeliest (wsV RX0 74 RX0 yX0_isQuestion wsX0_isQuestion) := goodIn_app (goodIn_of _ (by decide +kernel)) ggX0_likeliest_X0_isQuestion
set_option maxRecDepth 20000 in
theorem ggX0_likeliest_X0_likeliestWorld : GoodIn wsX0_likeliest wsX0_likeliestWorld := goodIn_r _ [10, 11, 12, 13, 14, 15, 4, 16, 17, 18, 19, 20, 21, 1, 2, 3, 5, 6, 22, 23, 24, 25, 26, 27, 28, 29, 30, 31, 32, 33, 34, 35, 36, 37, 38, 39, 40, 41] (by decide +kernel) (by decide +kernel)
set_option maxRecDepth 20000 in
theorem gX0_likeliest_X0_likeliestWorld : GoodIn wsX0_likeliest (wsV RX0 128 RX0 yX0_likeliestWorld wsX0_likeliestWorld) := goodIn_app (goodIn_of _ (by decide +kernel)) ggX0_likeliest_X0_likeliestWorld
theorem dX0_likeliest_0 : decode cX0_likeliest 0 = .ok (.aload_n 0, 1) := by decide +kernel
theorem dX0_likeliest_1 : decode cX0_likeliest 1 = .ok (.iload_n 1, 1) := by decide +kernel
theorem dX0_likeliest_2 : decode cX0_likeliest 2 = .ok (.invokevirtual 74, 3) := by decide +kernel
theorem dX0_likeliest_5 : decode cX0_likeliest 5 = .ok (.ifCond .ne 5, 3) := by decide +kernel
theorem dX0_likeliest_8 : decode cX0_likeliest 8 = .ok (.iconst (-1), 1) := by decide +kernel
theorem dX0_likeliest_9 : decode cX0_likeliest 9 = .ok (.ireturn, 1) := by decide +kernel
theorem dX0_likeliest_10 : decode cX0_likeliest 10 = .ok (.aload_n 0, 1) := by decide +kernel
theorem dX0_likeliest_11 : decode cX0_likeliest 11 = .ok (.iload_n 1, 1) := by decide +kernel
theorem dX0_likeliest_12 : decode cX0_likeliest 12 = .ok (.invokevirtual 128, 3) := by decide +kernel
theorem dX0_likeliest_15 : decode cX0_likeliest 15 = .ok (.ireturn, 1) := by decide +kernel
set_option maxRecDepth 20000 in
theorem ggX0_weight_X0_isQuestion : GoodIn wsX0_weight wsX0_isQuestion := goodIn_r _ [5, 6, 34, 35, 36, 37, 38, 39, 40, 41] (by decide +kernel) (by decide +kernel)
set_option maxRecDepth 20000 in
theorem gX0_weight_X0_isQuestion : GoodIn wsX0_weight (wsV RX0 74 RX0 yX0_isQuestion wsX0_isQuestion) := goodIn_app (goodIn_of _ (by decide +kernel)) ggX0_weight_X0_isQuestion
set_option maxRecDepth 20000 in
theorem ggX0_weight_X0_likeliestWorld : GoodIn wsX0_weight wsX0_likeliestWorld := goodIn_r _ [10, 11, 12, 13, 14, 15, 4, 16, 17, 18, 19, 20, 21, 1, 2, 3, 5, 6, 22, 23, 24, 25, 26, 27, 28, 29, 30, 31, 32, 33, 34, 35, 36, 37, 38, 39, 40, 41] (by decide +kernel) (by decide +kernel)
set_option maxRecDepth 20000 in
theorem gX0_weight_X0_likeliestWorld : GoodIn wsX0_weight (wsV RX0 128 RX0 yX0_likeliestWorld wsX0_likeliestWorld) := goodIn_app (goodIn_of _ (by decide +kernel)) ggX0_weight_X0_likeliestWorld
set_option maxRecDepth 20000 in
theorem ggX0_weight_X0_weightOf : GoodIn wsX0_weight wsX0_weightOf := goodIn_r _ [31, 32, 33, 22, 23, 4, 24, 34, 35, 36, 37, 38, 39, 40, 41] (by decide +kernel) (by decide +kernel)
set_option maxRecDepth 20000 in
theorem gX0_weight_X0_weightOf : GoodIn wsX0_weight (wsV RX0 132 RX0 yX0_weightOf wsX0_weightOf) := goodIn_app (goodIn_of _ (by decide +kernel)) ggX0_weight_X0_weightOf
theorem dX0_weight_0 : decode cX0_weight 0 = .ok (.aload_n 0, 1) := by decide +kernel
theorem dX0_weight_1 : decode cX0_weight 1 = .ok (.iload_n 1, 1) := by decide +kernel
theorem dX0_weight_2 : decode cX0_weight 2 = .ok (.invokevirtual 74, 3) := by decide +kernel
theorem dX0_weight_5 : decode cX0_weight 5 = .ok (.ifCond .ne 5, 3) := by decide +kernel
theorem dX0_weight_8 : decode cX0_weight 8 = .ok (.lconst 0, 1) := by decide +kernel
theorem dX0_weight_9 : decode cX0_weight 9 = .ok (.lreturn, 1) := by decide +kernel
theorem dX0_weight_10 : decode cX0_weight 10 = .ok (.aload_n 0, 1) := by decide +kernel
theorem dX0_weight_11 : decode cX0_weight 11 = .ok (.iload_n 1, 1) := by decide +kernel
theorem dX0_weight_12 : decode cX0_weight 12 = .ok (.invokevirtual 128, 3) := by decide +kernel
theorem dX0_weight_15 : decode cX0_weight 15 = .ok (.istore_n 2, 1) := by decide +kernel
theorem dX0_weight_16 : decode cX0_weight 16 = .ok (.iload_n 2, 1) := by decide +kernel
theorem dX0_weight_17 : decode cX0_weight 17 = .ok (.bipush (-2), 2) := by decide +kernel
theorem dX0_weight_19 : decode cX0_weight 19 = .ok (.if_icmp .ne 7, 3) := by decide +kernel
theorem dX0_weight_22 : decode cX0_weight 22 = .ok (.lconst 0, 1) := by decide +kernel
theorem dX0_weight_23 : decode cX0_weight 23 = .ok (.goto 8, 3) := by decide +kernel
theorem dX0_weight_26 : decode cX0_weight 26 = .ok (.aload_n 0, 1) := by decide +kernel
theorem dX0_weight_27 : decode cX0_weight 27 = .ok (.iload_n 2, 1) := by decide +kernel
theorem dX0_weight_28 : decode cX0_weight 28 = .ok (.invokevirtual 132, 3) := by decide +kernel
theorem dX0_weight_31 : decode cX0_weight 31 = .ok (.lreturn, 1) := by decide +kernel
set_option maxRecDepth 20000 in
theorem ggX0_worlds_X0_isQuestion : GoodIn wsX0_worlds wsX0_isQuestion := goodIn_r _ [6, 7, 23, 24, 25, 26, 27, 28, 29, 30] (by decide +kernel) (by decide +kernel)
set_option maxRecDepth 20000 in
theorem gX0_worlds_X0_isQuestion : GoodIn wsX0_worlds (wsV RX0 74 RX0 yX0_isQuestion wsX0_isQuestion) := goodIn_app (goodIn_of _ (by decide +kernel)) ggX0_worlds_X0_isQuestion
set_option maxRecDepth 20000 in
theorem ggX0_worlds_X0_blockOf : GoodIn wsX0_worlds wsX0_blockOf := goodIn_r _ [11, 12, 2, 3, 4, 5, 6, 7, 13, 14, 15, 23, 24, 25, 26, 27, 28, 29, 30] (by decide +kernel) (by decide +kernel)
set_option maxRecDepth 20000 in
theorem gX0_worlds_X0_blockOf : GoodIn wsX0_worlds (wsV RX0 77 RX0 yX0_blockOf wsX0_blockOf) := goodIn_app (goodIn_of _ (by decide +kernel)) ggX0_worlds_X0_blockOf
set_option maxRecDepth 20000 in
theorem ggX0_worlds_J13_bitCount_95d88 : GoodIn wsX0_worlds wsJ13_bitCount_95d88 := goodIn_r _ [19, 20, 21, 22] (by decide +kernel) (by decide +kernel)
set_option maxRecDepth 20000 in
theorem gX0_worlds_J13_bitCount_95d88 : GoodIn wsX0_worlds (va_wsS RX0 135 yJ13_bitCount_95d88 wsJ13_bitCount_95d88) := goodIn_app (goodIn_of _ (by decide +kernel)) ggX0_worlds_J13_bitCount_95d88
theorem dX0_worlds_0 : decode cX0_worlds 0 = .ok (.aload_n 0, 1) := by decide +kernel
theorem dX0_worlds_1 : decode cX0_worlds 1 = .ok (.iload_n 1, 1) := by decide +kernel
theorem dX0_worlds_2 : decode cX0_worlds 2 = .ok (.invokevirtual 74, 3) := by decide +kernel
theorem dX0_worlds_5 : decode cX0_worlds 5 = .ok (.ifCond .ne 5, 3) := by decide +kernel
theorem dX0_worlds_8 : decode cX0_worlds 8 = .ok (.iconst (-1), 1) := by decide +kernel
theorem dX0_worlds_9 : decode cX0_worlds 9 = .ok (.ireturn, 1) := by decide +kernel
theorem dX0_worlds_10 : decode cX0_worlds 10 = .ok (.iconst 0, 1) := by decide +kernel
theorem dX0_worlds_11 : decode cX0_worlds 11 = .ok (.istore_n 2, 1) := by decide +kernel
theorem dX0_worlds_12 : decode cX0_worlds 12 = .ok (.iconst 0, 1) := by decide +kernel
theorem dX0_worlds_13 : decode cX0_worlds 13 = .ok (.istore_n 3, 1) := by decide +kernel
theorem dX0_worlds_14 : decode cX0_worlds 14 = .ok (.iload_n 3, 1) := by decide +kernel
theorem dX0_worlds_15 : decode cX0_worlds 15 = .ok (.bipush 64, 2) := by decide +kernel
theorem dX0_worlds_17 : decode cX0_worlds 17 = .ok (.if_icmp .ge 21, 3) := by decide +kernel
theorem dX0_worlds_20 : decode cX0_worlds 20 = .ok (.iload_n 2, 1) := by decide +kernel
theorem dX0_worlds_21 : decode cX0_worlds 21 = .ok (.aload_n 0, 1) := by decide +kernel
theorem dX0_worlds_22 : decode cX0_worlds 22 = .ok (.iload_n 1, 1) := by decide +kernel
theorem dX0_worlds_23 : decode cX0_worlds 23 = .ok (.iload_n 3, 1) := by decide +kernel
theorem dX0_worlds_24 : decode cX0_worlds 24 = .ok (.invokevirtual 77, 3) := by decide +kernel
theorem dX0_worlds_27 : decode cX0_worlds 27 = .ok (.invokestatic 135, 3) := by decide +kernel
theorem dX0_worlds_30 : decode cX0_worlds 30 = .ok (.iadd, 1) := by decide +kernel
theorem dX0_worlds_31 : decode cX0_worlds 31 = .ok (.istore_n 2, 1) := by decide +kernel
theorem dX0_worlds_32 : decode cX0_worlds 32 = .ok (.iinc 3 1, 3) := by decide +kernel
theorem dX0_worlds_35 : decode cX0_worlds 35 = .ok (.goto (-21), 3) := by decide +kernel
theorem dX0_worlds_38 : decode cX0_worlds 38 = .ok (.iload_n 2, 1) := by decide +kernel
theorem dX0_worlds_39 : decode cX0_worlds 39 = .ok (.bipush 12, 2) := by decide +kernel
theorem dX0_worlds_41 : decode cX0_worlds 41 = .ok (.aload_n 0, 1) := by decide +kernel
theorem dX0_worlds_42 : decode cX0_worlds 42 = .ok (.getfield 25, 3) := by decide +kernel
theorem dX0_worlds_45 : decode cX0_worlds 45 = .ok (.isub, 1) := by decide +kernel
theorem dX0_worlds_46 : decode cX0_worlds 46 = .ok (.ishr, 1) := by decide +kernel
theorem dX0_worlds_47 : decode cX0_worlds 47 = .ok (.ireturn, 1) := by decide +kernel
set_option maxRecDepth 20000 in
theorem ggX0_same_X0_isQuestion : GoodIn wsX0_same wsX0_isQuestion := goodIn_r _ [5, 6, 15, 16, 17, 18, 19, 20, 21, 22] (by decide +kernel) (by decide +kernel)
set_option maxRecDepth 20000 in
theorem gX0_same_X0_isQuestion : GoodIn wsX0_same (wsV RX0 74 RX0 yX0_isQuestion wsX0_isQuestion) := goodIn_app (goodIn_of _ (by decide +kernel)) ggX0_same_X0_isQuestion
set_option maxRecDepth 20000 in
theorem ggX0_same_X0_blockOf : GoodIn wsX0_same wsX0_blockOf := goodIn_r _ [10, 11, 1, 2, 3, 4, 5, 6, 12, 13, 14, 15, 16, 17, 18, 19, 20, 21, 22] (by decide +kernel) (by decide +kernel)
set_option maxRecDepth 20000 in
theorem gX0_same_X0_blockOf : GoodIn wsX0_same (wsV RX0 77 RX0 yX0_blockOf wsX0_blockOf) := goodIn_app (goodIn_of _ (by decide +kernel)) ggX0_same_X0_blockOf
theorem dX0_same_0 : decode cX0_same 0 = .ok (.aload_n 0, 1) := by decide +kernel
theorem dX0_same_1 : decode cX0_same 1 = .ok (.iload_n 1, 1) := by decide +kernel
theorem dX0_same_2 : decode cX0_same 2 = .ok (.invokevirtual 74, 3) := by decide +kernel
theorem dX0_same_5 : decode cX0_same 5 = .ok (.ifCond .eq 11, 3) := by decide +kernel
theorem dX0_same_8 : decode cX0_same 8 = .ok (.aload_n 0, 1) := by decide +kernel
theorem dX0_same_9 : decode cX0_same 9 = .ok (.iload_n 2, 1) := by decide +kernel
theorem dX0_same_10 : decode cX0_same 10 = .ok (.invokevirtual 74, 3) := by decide +kernel
theorem dX0_same_13 : decode cX0_same 13 = .ok (.ifCond .ne 5, 3) := by decide +kernel
theorem dX0_same_16 : decode cX0_same 16 = .ok (.iconst (-1), 1) := by decide +kernel
theorem dX0_same_17 : decode cX0_same 17 = .ok (.ireturn, 1) := by decide +kernel
theorem dX0_same_18 : decode cX0_same 18 = .ok (.iconst 0, 1) := by decide +kernel
theorem dX0_same_19 : decode cX0_same 19 = .ok (.istore_n 3, 1) := by decide +kernel
theorem dX0_same_20 : decode cX0_same 20 = .ok (.iload_n 3, 1) := by decide +kernel
theorem dX0_same_21 : decode cX0_same 21 = .ok (.bipush 64, 2) := by decide +kernel
theorem dX0_same_23 : decode cX0_same 23 = .ok (.if_icmp .ge 27, 3) := by decide +kernel
theorem dX0_same_26 : decode cX0_same 26 = .ok (.aload_n 0, 1) := by decide +kernel
theorem dX0_same_27 : decode cX0_same 27 = .ok (.iload_n 1, 1) := by decide +kernel
theorem dX0_same_28 : decode cX0_same 28 = .ok (.iload_n 3, 1) := by decide +kernel
theorem dX0_same_29 : decode cX0_same 29 = .ok (.invokevirtual 77, 3) := by decide +kernel
theorem dX0_same_32 : decode cX0_same 32 = .ok (.aload_n 0, 1) := by decide +kernel
theorem dX0_same_33 : decode cX0_same 33 = .ok (.iload_n 2, 1) := by decide +kernel
theorem dX0_same_34 : decode cX0_same 34 = .ok (.iload_n 3, 1) := by decide +kernel
theorem dX0_same_35 : decode cX0_same 35 = .ok (.invokevirtual 77, 3) := by decide +kernel
theorem dX0_same_38 : decode cX0_same 38 = .ok (.lcmp, 1) := by decide +kernel
theorem dX0_same_39 : decode cX0_same 39 = .ok (.ifCond .eq 5, 3) := by decide +kernel
theorem dX0_same_42 : decode cX0_same 42 = .ok (.iconst 0, 1) := by decide +kernel
theorem dX0_same_43 : decode cX0_same 43 = .ok (.ireturn, 1) := by decide +kernel
theorem dX0_same_44 : decode cX0_same 44 = .ok (.iinc 3 1, 3) := by decide +kernel
theorem dX0_same_47 : decode cX0_same 47 = .ok (.goto (-27), 3) := by decide +kernel
theorem dX0_same_50 : decode cX0_same 50 = .ok (.iconst 1, 1) := by decide +kernel
theorem dX0_same_51 : decode cX0_same 51 = .ok (.ireturn, 1) := by decide +kernel
set_option maxRecDepth 20000 in
theorem ggX0_sample_X0_isQuestion : GoodIn wsX0_sample wsX0_isQuestion := goodIn_r _ [7, 8, 37, 38, 39, 40, 41, 42, 43, 44] (by decide +kernel) (by decide +kernel)
set_option maxRecDepth 20000 in
theorem gX0_sample_X0_isQuestion : GoodIn wsX0_sample (wsV RX0 74 RX0 yX0_isQuestion wsX0_isQuestion) := goodIn_app (goodIn_of _ (by decide +kernel)) ggX0_sample_X0_isQuestion
set_option maxRecDepth 20000 in
theorem ggX0_sample_X0_drawWorld : GoodIn wsX0_sample wsX0_drawWorld := goodIn_r _ [12, 13, 14, 15, 16, 17, 18, 6, 19, 2, 20, 21, 1, 22, 23, 24, 37, 38, 39, 40, 41, 42, 43, 44] (by decide +kernel) (by decide +kernel)
set_option maxRecDepth 20000 in
theorem gX0_sample_X0_drawWorld : GoodIn wsX0_sample (wsV RX0 143 RX0 yX0_drawWorld wsX0_drawWorld) := goodIn_app (goodIn_of _ (by decide +kernel)) ggX0_sample_X0_drawWorld
set_option maxRecDepth 20000 in
theorem ggX0_sample_X0_isTrue : GoodIn wsX0_sample wsX0_isTrue := goodIn_r _ [28, 29, 30, 31, 6, 32, 33, 3, 4, 5, 7, 8, 22, 23, 24, 34, 35, 36, 37, 38, 39, 40, 41, 42, 43, 44] (by decide +kernel) (by decide +kernel)
set_option maxRecDepth 20000 in
theorem gX0_sample_X0_isTrue : GoodIn wsX0_sample (wsV RX0 92 RX0 yX0_isTrue wsX0_isTrue) := goodIn_app (goodIn_of _ (by decide +kernel)) ggX0_sample_X0_isTrue
theorem dX0_sample_0 : decode cX0_sample 0 = .ok (.aload_n 0, 1) := by decide +kernel
theorem dX0_sample_1 : decode cX0_sample 1 = .ok (.iload_n 1, 1) := by decide +kernel
theorem dX0_sample_2 : decode cX0_sample 2 = .ok (.invokevirtual 74, 3) := by decide +kernel
theorem dX0_sample_5 : decode cX0_sample 5 = .ok (.ifCond .eq 16, 3) := by decide +kernel
theorem dX0_sample_8 : decode cX0_sample 8 = .ok (.iload 4, 2) := by decide +kernel
theorem dX0_sample_10 : decode cX0_sample 10 = .ok (.ifCond .lt 11, 3) := by decide +kernel
theorem dX0_sample_13 : decode cX0_sample 13 = .ok (.iload 4, 2) := by decide +kernel
theorem dX0_sample_15 : decode cX0_sample 15 = .ok (.sipush 200, 3) := by decide +kernel
theorem dX0_sample_18 : decode cX0_sample 18 = .ok (.if_icmp .le 5, 3) := by decide +kernel
theorem dX0_sample_21 : decode cX0_sample 21 = .ok (.iconst (-1), 1) := by decide +kernel
theorem dX0_sample_22 : decode cX0_sample 22 = .ok (.ireturn, 1) := by decide +kernel
theorem dX0_sample_23 : decode cX0_sample 23 = .ok (.aload_n 0, 1) := by decide +kernel
theorem dX0_sample_24 : decode cX0_sample 24 = .ok (.lload_n 2, 1) := by decide +kernel
theorem dX0_sample_25 : decode cX0_sample 25 = .ok (.ldc2_w 141, 3) := by decide +kernel
theorem dX0_sample_28 : decode cX0_sample 28 = .ok (.land, 1) := by decide +kernel
theorem dX0_sample_29 : decode cX0_sample 29 = .ok (.putfield 32, 3) := by decide +kernel
theorem dX0_sample_32 : decode cX0_sample 32 = .ok (.iconst 0, 1) := by decide +kernel
theorem dX0_sample_33 : decode cX0_sample 33 = .ok (.istore 5, 2) := by decide +kernel
theorem dX0_sample_35 : decode cX0_sample 35 = .ok (.iconst 0, 1) := by decide +kernel
theorem dX0_sample_36 : decode cX0_sample 36 = .ok (.istore 6, 2) := by decide +kernel
theorem dX0_sample_38 : decode cX0_sample 38 = .ok (.iload 6, 2) := by decide +kernel
theorem dX0_sample_40 : decode cX0_sample 40 = .ok (.iload 4, 2) := by decide +kernel
theorem dX0_sample_42 : decode cX0_sample 42 = .ok (.if_icmp .ge 24, 3) := by decide +kernel
theorem dX0_sample_45 : decode cX0_sample 45 = .ok (.aload_n 0, 1) := by decide +kernel
theorem dX0_sample_46 : decode cX0_sample 46 = .ok (.iload_n 1, 1) := by decide +kernel
theorem dX0_sample_47 : decode cX0_sample 47 = .ok (.aload_n 0, 1) := by decide +kernel
theorem dX0_sample_48 : decode cX0_sample 48 = .ok (.invokevirtual 143, 3) := by decide +kernel
theorem dX0_sample_51 : decode cX0_sample 51 = .ok (.invokevirtual 92, 3) := by decide +kernel
theorem dX0_sample_54 : decode cX0_sample 54 = .ok (.ifCond .eq 6, 3) := by decide +kernel
theorem dX0_sample_57 : decode cX0_sample 57 = .ok (.iinc 5 1, 3) := by decide +kernel
theorem dX0_sample_60 : decode cX0_sample 60 = .ok (.iinc 6 1, 3) := by decide +kernel
theorem dX0_sample_63 : decode cX0_sample 63 = .ok (.goto (-25), 3) := by decide +kernel
theorem dX0_sample_66 : decode cX0_sample 66 = .ok (.iload 5, 2) := by decide +kernel
theorem dX0_sample_68 : decode cX0_sample 68 = .ok (.ireturn, 1) := by decide +kernel
theorem dX0_seed_0 : decode cX0_seed 0 = .ok (.aload_n 0, 1) := by decide +kernel
theorem dX0_seed_1 : decode cX0_seed 1 = .ok (.getfield 32, 3) := by decide +kernel
theorem dX0_seed_4 : decode cX0_seed 4 = .ok (.lreturn, 1) := by decide +kernel
theorem dX0_questions_0 : decode cX0_questions 0 = .ok (.aload_n 0, 1) := by decide +kernel
theorem dX0_questions_1 : decode cX0_questions 1 = .ok (.getfield 29, 3) := by decide +kernel
theorem dX0_questions_4 : decode cX0_questions 4 = .ok (.ireturn, 1) := by decide +kernel
theorem dX0_areOdds_0 : decode cX0_areOdds 0 = .ok (.iload_n 1, 1) := by decide +kernel
theorem dX0_areOdds_1 : decode cX0_areOdds 1 = .ok (.iconst 1, 1) := by decide +kernel
theorem dX0_areOdds_2 : decode cX0_areOdds 2 = .ok (.if_icmp .lt 22, 3) := by decide +kernel
theorem dX0_areOdds_5 : decode cX0_areOdds 5 = .ok (.iload_n 1, 1) := by decide +kernel
theorem dX0_areOdds_6 : decode cX0_areOdds 6 = .ok (.bipush 8, 2) := by decide +kernel
theorem dX0_areOdds_8 : decode cX0_areOdds 8 = .ok (.if_icmp .gt 16, 3) := by decide +kernel
theorem dX0_areOdds_11 : decode cX0_areOdds 11 = .ok (.iload_n 0, 1) := by decide +kernel
theorem dX0_areOdds_12 : decode cX0_areOdds 12 = .ok (.ifCond .lt 12, 3) := by decide +kernel
theorem dX0_areOdds_15 : decode cX0_areOdds 15 = .ok (.iload_n 0, 1) := by decide +kernel
theorem dX0_areOdds_16 : decode cX0_areOdds 16 = .ok (.iload_n 1, 1) := by decide +kernel
theorem dX0_areOdds_17 : decode cX0_areOdds 17 = .ok (.if_icmp .gt 7, 3) := by decide +kernel
theorem dX0_areOdds_20 : decode cX0_areOdds 20 = .ok (.iconst 1, 1) := by decide +kernel
theorem dX0_areOdds_21 : decode cX0_areOdds 21 = .ok (.goto 4, 3) := by decide +kernel
theorem dX0_areOdds_24 : decode cX0_areOdds 24 = .ok (.iconst 0, 1) := by decide +kernel
theorem dX0_areOdds_25 : decode cX0_areOdds 25 = .ok (.ireturn, 1) := by decide +kernel
theorem dX0_isPart_0 : decode cX0_isPart 0 = .ok (.iload_n 0, 1) := by decide +kernel
theorem dX0_isPart_1 : decode cX0_isPart 1 = .ok (.ifCond .eq 8, 3) := by decide +kernel
theorem dX0_isPart_4 : decode cX0_isPart 4 = .ok (.iload_n 0, 1) := by decide +kernel
theorem dX0_isPart_5 : decode cX0_isPart 5 = .ok (.iconst 1, 1) := by decide +kernel
theorem dX0_isPart_6 : decode cX0_isPart 6 = .ok (.if_icmp .ne 7, 3) := by decide +kernel
theorem dX0_isPart_9 : decode cX0_isPart 9 = .ok (.iconst 1, 1) := by decide +kernel
theorem dX0_isPart_10 : decode cX0_isPart 10 = .ok (.goto 4, 3) := by decide +kernel
theorem dX0_isPart_13 : decode cX0_isPart 13 = .ok (.iconst 0, 1) := by decide +kernel
theorem dX0_isPart_14 : decode cX0_isPart 14 = .ok (.ireturn, 1) := by decide +kernel
theorem dX0_isFact_0 : decode cX0_isFact 0 = .ok (.iload_n 1, 1) := by decide +kernel
theorem dX0_isFact_1 : decode cX0_isFact 1 = .ok (.ifCond .lt 15, 3) := by decide +kernel
theorem dX0_isFact_4 : decode cX0_isFact 4 = .ok (.iload_n 1, 1) := by decide +kernel
theorem dX0_isFact_5 : decode cX0_isFact 5 = .ok (.aload_n 0, 1) := by decide +kernel
theorem dX0_isFact_6 : decode cX0_isFact 6 = .ok (.getfield 25, 3) := by decide +kernel
theorem dX0_isFact_9 : decode cX0_isFact 9 = .ok (.if_icmp .ge 7, 3) := by decide +kernel
theorem dX0_isFact_12 : decode cX0_isFact 12 = .ok (.iconst 1, 1) := by decide +kernel
theorem dX0_isFact_13 : decode cX0_isFact 13 = .ok (.goto 4, 3) := by decide +kernel
theorem dX0_isFact_16 : decode cX0_isFact 16 = .ok (.iconst 0, 1) := by decide +kernel
theorem dX0_isFact_17 : decode cX0_isFact 17 = .ok (.ireturn, 1) := by decide +kernel
set_option maxRecDepth 20000 in
theorem ggX0_areFacts_X0_allFacts : GoodIn wsX0_areFacts wsX0_allFacts := goodIn_r _ [5, 6, 7, 8, 9, 10, 11, 12, 13, 14] (by decide +kernel) (by decide +kernel)
set_option maxRecDepth 20000 in
theorem gX0_areFacts_X0_allFacts : GoodIn wsX0_areFacts (wsV RX0 89 RX0 yX0_allFacts wsX0_allFacts) := goodIn_app (goodIn_of _ (by decide +kernel)) ggX0_areFacts_X0_allFacts
theorem dX0_areFacts_0 : decode cX0_areFacts 0 = .ok (.iload_n 1, 1) := by decide +kernel
theorem dX0_areFacts_1 : decode cX0_areFacts 1 = .ok (.aload_n 0, 1) := by decide +kernel
theorem dX0_areFacts_2 : decode cX0_areFacts 2 = .ok (.invokevirtual 89, 3) := by decide +kernel
theorem dX0_areFacts_5 : decode cX0_areFacts 5 = .ok (.iconst (-1), 1) := by decide +kernel
theorem dX0_areFacts_6 : decode cX0_areFacts 6 = .ok (.ixor, 1) := by decide +kernel
theorem dX0_areFacts_7 : decode cX0_areFacts 7 = .ok (.iand, 1) := by decide +kernel
theorem dX0_areFacts_8 : decode cX0_areFacts 8 = .ok (.ifCond .ne 7, 3) := by decide +kernel
theorem dX0_areFacts_11 : decode cX0_areFacts 11 = .ok (.iconst 1, 1) := by decide +kernel
theorem dX0_areFacts_12 : decode cX0_areFacts 12 = .ok (.goto 4, 3) := by decide +kernel
theorem dX0_areFacts_15 : decode cX0_areFacts 15 = .ok (.iconst 0, 1) := by decide +kernel
theorem dX0_areFacts_16 : decode cX0_areFacts 16 = .ok (.ireturn, 1) := by decide +kernel
theorem dX0_isQuestion_0 : decode cX0_isQuestion 0 = .ok (.iload_n 1, 1) := by decide +kernel
theorem dX0_isQuestion_1 : decode cX0_isQuestion 1 = .ok (.ifCond .lt 15, 3) := by decide +kernel
theorem dX0_isQuestion_4 : decode cX0_isQuestion 4 = .ok (.iload_n 1, 1) := by decide +kernel
theorem dX0_isQuestion_5 : decode cX0_isQuestion 5 = .ok (.aload_n 0, 1) := by decide +kernel
theorem dX0_isQuestion_6 : decode cX0_isQuestion 6 = .ok (.getfield 29, 3) := by decide +kernel
theorem dX0_isQuestion_9 : decode cX0_isQuestion 9 = .ok (.if_icmp .ge 7, 3) := by decide +kernel
theorem dX0_isQuestion_12 : decode cX0_isQuestion 12 = .ok (.iconst 1, 1) := by decide +kernel
theorem dX0_isQuestion_13 : decode cX0_isQuestion 13 = .ok (.goto 4, 3) := by decide +kernel
theorem dX0_isQuestion_16 : decode cX0_isQuestion 16 = .ok (.iconst 0, 1) := by decide +kernel
theorem dX0_isQuestion_17 : decode cX0_isQuestion 17 = .ok (.ireturn, 1) := by decide +kernel
theorem dX0_isFull_0 : decode cX0_isFull 0 = .ok (.aload_n 0, 1) := by decide +kernel
theorem dX0_isFull_1 : decode cX0_isFull 1 = .ok (.getfield 29, 3) := by decide +kernel
theorem dX0_isFull_4 : decode cX0_isFull 4 = .ok (.bipush 40, 2) := by decide +kernel
theorem dX0_isFull_6 : decode cX0_isFull 6 = .ok (.if_icmp .lt 7, 3) := by decide +kernel
theorem dX0_isFull_9 : decode cX0_isFull 9 = .ok (.iconst 1, 1) := by decide +kernel
theorem dX0_isFull_10 : decode cX0_isFull 10 = .ok (.goto 4, 3) := by decide +kernel
theorem dX0_isFull_13 : decode cX0_isFull 13 = .ok (.iconst 0, 1) := by decide +kernel
theorem dX0_isFull_14 : decode cX0_isFull 14 = .ok (.ireturn, 1) := by decide +kernel
theorem dX0_allFacts_0 : decode cX0_allFacts 0 = .ok (.iconst 1, 1) := by decide +kernel
theorem dX0_allFacts_1 : decode cX0_allFacts 1 = .ok (.aload_n 0, 1) := by decide +kernel
theorem dX0_allFacts_2 : decode cX0_allFacts 2 = .ok (.getfield 25, 3) := by decide +kernel
theorem dX0_allFacts_5 : decode cX0_allFacts 5 = .ok (.ishl, 1) := by decide +kernel
theorem dX0_allFacts_6 : decode cX0_allFacts 6 = .ok (.iconst 1, 1) := by decide +kernel
theorem dX0_allFacts_7 : decode cX0_allFacts 7 = .ok (.isub, 1) := by decide +kernel
theorem dX0_allFacts_8 : decode cX0_allFacts 8 = .ok (.ireturn, 1) := by decide +kernel
theorem dX0_at_0 : decode cX0_at 0 = .ok (.aload_n 0, 1) := by decide +kernel
theorem dX0_at_1 : decode cX0_at 1 = .ok (.ifnull 19, 3) := by decide +kernel
theorem dX0_at_4 : decode cX0_at 4 = .ok (.iload_n 1, 1) := by decide +kernel
theorem dX0_at_5 : decode cX0_at 5 = .ok (.ifCond .lt 15, 3) := by decide +kernel
theorem dX0_at_8 : decode cX0_at 8 = .ok (.iload_n 1, 1) := by decide +kernel
theorem dX0_at_9 : decode cX0_at 9 = .ok (.aload_n 0, 1) := by decide +kernel
theorem dX0_at_10 : decode cX0_at 10 = .ok (.arraylength, 1) := by decide +kernel
theorem dX0_at_11 : decode cX0_at 11 = .ok (.if_icmp .ge 9, 3) := by decide +kernel
theorem dX0_at_14 : decode cX0_at 14 = .ok (.aload_n 0, 1) := by decide +kernel
theorem dX0_at_15 : decode cX0_at 15 = .ok (.iload_n 1, 1) := by decide +kernel
theorem dX0_at_16 : decode cX0_at 16 = .ok (.laload, 1) := by decide +kernel
theorem dX0_at_17 : decode cX0_at 17 = .ok (.goto 4, 3) := by decide +kernel
theorem dX0_at_20 : decode cX0_at 20 = .ok (.lconst 0, 1) := by decide +kernel
theorem dX0_at_21 : decode cX0_at 21 = .ok (.lreturn, 1) := by decide +kernel
theorem dX0_put_0 : decode cX0_put 0 = .ok (.aload_n 0, 1) := by decide +kernel
theorem dX0_put_1 : decode cX0_put 1 = .ok (.ifnull 17, 3) := by decide +kernel
theorem dX0_put_4 : decode cX0_put 4 = .ok (.iload_n 1, 1) := by decide +kernel
theorem dX0_put_5 : decode cX0_put 5 = .ok (.ifCond .lt 13, 3) := by decide +kernel
theorem dX0_put_8 : decode cX0_put 8 = .ok (.iload_n 1, 1) := by decide +kernel
theorem dX0_put_9 : decode cX0_put 9 = .ok (.aload_n 0, 1) := by decide +kernel
theorem dX0_put_10 : decode cX0_put 10 = .ok (.arraylength, 1) := by decide +kernel
theorem dX0_put_11 : decode cX0_put 11 = .ok (.if_icmp .ge 7, 3) := by decide +kernel
theorem dX0_put_14 : decode cX0_put 14 = .ok (.aload_n 0, 1) := by decide +kernel
theorem dX0_put_15 : decode cX0_put 15 = .ok (.iload_n 1, 1) := by decide +kernel
theorem dX0_put_16 : decode cX0_put 16 = .ok (.lload_n 2, 1) := by decide +kernel
theorem dX0_put_17 : decode cX0_put 17 = .ok (.lastore, 1) := by decide +kernel
theorem dX0_put_18 : decode cX0_put 18 = .ok (.return_, 1) := by decide +kernel
set_option maxRecDepth 20000 in
theorem ggX0_blockOf_X0_isQuestion : GoodIn wsX0_blockOf wsX0_isQuestion := goodIn_r _ [6, 7, 11, 12, 13, 14, 15, 16, 17, 18] (by decide +kernel) (by decide +kernel)
set_option maxRecDepth 20000 in
theorem gX0_blockOf_X0_isQuestion : GoodIn wsX0_blockOf (wsV RX0 74 RX0 yX0_isQuestion wsX0_isQuestion) := goodIn_app (goodIn_of _ (by decide +kernel)) ggX0_blockOf_X0_isQuestion
set_option maxRecDepth 20000 in
theorem ggX0_blockOf_X0_at : GoodIn wsX0_blockOf wsX0_at := goodIn_r _ [10] (by decide +kernel) (by decide +kernel)
set_option maxRecDepth 20000 in
theorem gX0_blockOf_X0_at : GoodIn wsX0_blockOf (va_wsS RX0 146 yX0_at wsX0_at) := goodIn_app (goodIn_of _ (by decide +kernel)) ggX0_blockOf_X0_at
theorem dX0_blockOf_0 : decode cX0_blockOf 0 = .ok (.aload_n 0, 1) := by decide +kernel
theorem dX0_blockOf_1 : decode cX0_blockOf 1 = .ok (.iload_n 1, 1) := by decide +kernel
theorem dX0_blockOf_2 : decode cX0_blockOf 2 = .ok (.invokevirtual 74, 3) := by decide +kernel
theorem dX0_blockOf_5 : decode cX0_blockOf 5 = .ok (.ifCond .eq 13, 3) := by decide +kernel
theorem dX0_blockOf_8 : decode cX0_blockOf 8 = .ok (.iload_n 2, 1) := by decide +kernel
theorem dX0_blockOf_9 : decode cX0_blockOf 9 = .ok (.ifCond .lt 9, 3) := by decide +kernel
theorem dX0_blockOf_12 : decode cX0_blockOf 12 = .ok (.iload_n 2, 1) := by decide +kernel
theorem dX0_blockOf_13 : decode cX0_blockOf 13 = .ok (.bipush 64, 2) := by decide +kernel
theorem dX0_blockOf_15 : decode cX0_blockOf 15 = .ok (.if_icmp .lt 5, 3) := by decide +kernel
theorem dX0_blockOf_18 : decode cX0_blockOf 18 = .ok (.lconst 0, 1) := by decide +kernel
theorem dX0_blockOf_19 : decode cX0_blockOf 19 = .ok (.lreturn, 1) := by decide +kernel
theorem dX0_blockOf_20 : decode cX0_blockOf 20 = .ok (.aload_n 0, 1) := by decide +kernel
theorem dX0_blockOf_21 : decode cX0_blockOf 21 = .ok (.getfield 22, 3) := by decide +kernel
theorem dX0_blockOf_24 : decode cX0_blockOf 24 = .ok (.iload_n 1, 1) := by decide +kernel
theorem dX0_blockOf_25 : decode cX0_blockOf 25 = .ok (.bipush 64, 2) := by decide +kernel
theorem dX0_blockOf_27 : decode cX0_blockOf 27 = .ok (.imul, 1) := by decide +kernel
theorem dX0_blockOf_28 : decode cX0_blockOf 28 = .ok (.iload_n 2, 1) := by decide +kernel
theorem dX0_blockOf_29 : decode cX0_blockOf 29 = .ok (.iadd, 1) := by decide +kernel
theorem dX0_blockOf_30 : decode cX0_blockOf 30 = .ok (.invokestatic 146, 3) := by decide +kernel
theorem dX0_blockOf_33 : decode cX0_blockOf 33 = .ok (.lreturn, 1) := by decide +kernel
set_option maxRecDepth 20000 in
theorem ggX0_isTrue_X0_blockOf : GoodIn wsX0_isTrue wsX0_blockOf := goodIn_r _ [5, 6, 7, 8, 9, 4, 10, 11, 12, 13, 14, 18, 19, 20, 21, 22, 23, 24, 25] (by decide +kernel) (by decide +kernel)
set_option maxRecDepth 20000 in
theorem gX0_isTrue_X0_blockOf : GoodIn wsX0_isTrue (wsV RX0 77 RX0 yX0_blockOf wsX0_blockOf) := goodIn_app (goodIn_of _ (by decide +kernel)) ggX0_isTrue_X0_blockOf
set_option maxRecDepth 20000 in
theorem ggX0_isTrue_X0_isBitOn : GoodIn wsX0_isTrue wsX0_isBitOn := goodIn_r _ [17] (by decide +kernel) (by decide +kernel)
set_option maxRecDepth 20000 in
theorem gX0_isTrue_X0_isBitOn : GoodIn wsX0_isTrue (va_wsS RX0 150 yX0_isBitOn wsX0_isBitOn) := goodIn_app (goodIn_of _ (by decide +kernel)) ggX0_isTrue_X0_isBitOn
theorem dX0_isTrue_0 : decode cX0_isTrue 0 = .ok (.aload_n 0, 1) := by decide +kernel
theorem dX0_isTrue_1 : decode cX0_isTrue 1 = .ok (.iload_n 1, 1) := by decide +kernel
theorem dX0_isTrue_2 : decode cX0_isTrue 2 = .ok (.iload_n 2, 1) := by decide +kernel
theorem dX0_isTrue_3 : decode cX0_isTrue 3 = .ok (.bipush 64, 2) := by decide +kernel
theorem dX0_isTrue_5 : decode cX0_isTrue 5 = .ok (.idiv, 1) := by decide +kernel
theorem dX0_isTrue_6 : decode cX0_isTrue 6 = .ok (.invokevirtual 77, 3) := by decide +kernel
theorem dX0_isTrue_9 : decode cX0_isTrue 9 = .ok (.lstore_n 3, 1) := by decide +kernel
theorem dX0_isTrue_10 : decode cX0_isTrue 10 = .ok (.lload_n 3, 1) := by decide +kernel
theorem dX0_isTrue_11 : decode cX0_isTrue 11 = .ok (.iload_n 2, 1) := by decide +kernel
theorem dX0_isTrue_12 : decode cX0_isTrue 12 = .ok (.bipush 64, 2) := by decide +kernel
theorem dX0_isTrue_14 : decode cX0_isTrue 14 = .ok (.irem, 1) := by decide +kernel
theorem dX0_isTrue_15 : decode cX0_isTrue 15 = .ok (.invokestatic 150, 3) := by decide +kernel
theorem dX0_isTrue_18 : decode cX0_isTrue 18 = .ok (.ireturn, 1) := by decide +kernel
theorem dX0_isBitOn_0 : decode cX0_isBitOn 0 = .ok (.lload_n 0, 1) := by decide +kernel
theorem dX0_isBitOn_1 : decode cX0_isBitOn 1 = .ok (.iload_n 2, 1) := by decide +kernel
theorem dX0_isBitOn_2 : decode cX0_isBitOn 2 = .ok (.lushr, 1) := by decide +kernel
theorem dX0_isBitOn_3 : decode cX0_isBitOn 3 = .ok (.lconst 1, 1) := by decide +kernel
theorem dX0_isBitOn_4 : decode cX0_isBitOn 4 = .ok (.land, 1) := by decide +kernel
theorem dX0_isBitOn_5 : decode cX0_isBitOn 5 = .ok (.lconst 0, 1) := by decide +kernel
theorem dX0_isBitOn_6 : decode cX0_isBitOn 6 = .ok (.lcmp, 1) := by decide +kernel
theorem dX0_isBitOn_7 : decode cX0_isBitOn 7 = .ok (.ifCond .eq 7, 3) := by decide +kernel
theorem dX0_isBitOn_10 : decode cX0_isBitOn 10 = .ok (.iconst 1, 1) := by decide +kernel
theorem dX0_isBitOn_11 : decode cX0_isBitOn 11 = .ok (.goto 4, 3) := by decide +kernel
theorem dX0_isBitOn_14 : decode cX0_isBitOn 14 = .ok (.iconst 0, 1) := by decide +kernel
theorem dX0_isBitOn_15 : decode cX0_isBitOn 15 = .ok (.ireturn, 1) := by decide +kernel
set_option maxRecDepth 20000 in
theorem ggX0_putNextBlock_X0_put : GoodIn wsX0_putNextBlock wsX0_put := goodIn_r _ [6] (by decide +kernel) (by decide +kernel)
set_option maxRecDepth 20000 in
theorem gX0_putNextBlock_X0_put : GoodIn wsX0_putNextBlock (va_wsS RX0 36 yX0_put wsX0_put) := goodIn_app (goodIn_of _ (by decide +kernel)) ggX0_putNextBlock_X0_put
theorem dX0_putNextBlock_0 : decode cX0_putNextBlock 0 = .ok (.aload_n 0, 1) := by decide +kernel
theorem dX0_putNextBlock_1 : decode cX0_putNextBlock 1 = .ok (.getfield 22, 3) := by decide +kernel
theorem dX0_putNextBlock_4 : decode cX0_putNextBlock 4 = .ok (.aload_n 0, 1) := by decide +kernel
theorem dX0_putNextBlock_5 : decode cX0_putNextBlock 5 = .ok (.getfield 29, 3) := by decide +kernel
theorem dX0_putNextBlock_8 : decode cX0_putNextBlock 8 = .ok (.bipush 64, 2) := by decide +kernel
theorem dX0_putNextBlock_10 : decode cX0_putNextBlock 10 = .ok (.imul, 1) := by decide +kernel
theorem dX0_putNextBlock_11 : decode cX0_putNextBlock 11 = .ok (.iload_n 1, 1) := by decide +kernel
theorem dX0_putNextBlock_12 : decode cX0_putNextBlock 12 = .ok (.iadd, 1) := by decide +kernel
theorem dX0_putNextBlock_13 : decode cX0_putNextBlock 13 = .ok (.lload_n 2, 1) := by decide +kernel
theorem dX0_putNextBlock_14 : decode cX0_putNextBlock 14 = .ok (.invokestatic 36, 3) := by decide +kernel
theorem dX0_putNextBlock_17 : decode cX0_putNextBlock 17 = .ok (.return_, 1) := by decide +kernel
theorem dX0_keepNext_0 : decode cX0_keepNext 0 = .ok (.aload_n 0, 1) := by decide +kernel
theorem dX0_keepNext_1 : decode cX0_keepNext 1 = .ok (.getfield 29, 3) := by decide +kernel
theorem dX0_keepNext_4 : decode cX0_keepNext 4 = .ok (.istore_n 1, 1) := by decide +kernel
theorem dX0_keepNext_5 : decode cX0_keepNext 5 = .ok (.aload_n 0, 1) := by decide +kernel
theorem dX0_keepNext_6 : decode cX0_keepNext 6 = .ok (.dup, 1) := by decide +kernel
theorem dX0_keepNext_7 : decode cX0_keepNext 7 = .ok (.getfield 29, 3) := by decide +kernel
theorem dX0_keepNext_10 : decode cX0_keepNext 10 = .ok (.iconst 1, 1) := by decide +kernel
theorem dX0_keepNext_11 : decode cX0_keepNext 11 = .ok (.iadd, 1) := by decide +kernel
theorem dX0_keepNext_12 : decode cX0_keepNext 12 = .ok (.putfield 29, 3) := by decide +kernel
theorem dX0_keepNext_15 : decode cX0_keepNext 15 = .ok (.iload_n 1, 1) := by decide +kernel
theorem dX0_keepNext_16 : decode cX0_keepNext 16 = .ok (.ireturn, 1) := by decide +kernel
theorem dX0_setBlock_0 : decode cX0_setBlock 0 = .ok (.lconst 0, 1) := by decide +kernel
theorem dX0_setBlock_1 : decode cX0_setBlock 1 = .ok (.lstore_n 3, 1) := by decide +kernel
theorem dX0_setBlock_2 : decode cX0_setBlock 2 = .ok (.iconst 0, 1) := by decide +kernel
theorem dX0_setBlock_3 : decode cX0_setBlock 3 = .ok (.istore 5, 2) := by decide +kernel
theorem dX0_setBlock_5 : decode cX0_setBlock 5 = .ok (.iload 5, 2) := by decide +kernel
theorem dX0_setBlock_7 : decode cX0_setBlock 7 = .ok (.bipush 64, 2) := by decide +kernel
theorem dX0_setBlock_9 : decode cX0_setBlock 9 = .ok (.if_icmp .ge 40, 3) := by decide +kernel
theorem dX0_setBlock_12 : decode cX0_setBlock 12 = .ok (.iload_n 0, 1) := by decide +kernel
theorem dX0_setBlock_13 : decode cX0_setBlock 13 = .ok (.bipush 64, 2) := by decide +kernel
theorem dX0_setBlock_15 : decode cX0_setBlock 15 = .ok (.imul, 1) := by decide +kernel
theorem dX0_setBlock_16 : decode cX0_setBlock 16 = .ok (.iload 5, 2) := by decide +kernel
theorem dX0_setBlock_18 : decode cX0_setBlock 18 = .ok (.iadd, 1) := by decide +kernel
theorem dX0_setBlock_19 : decode cX0_setBlock 19 = .ok (.istore 6, 2) := by decide +kernel
theorem dX0_setBlock_21 : decode cX0_setBlock 21 = .ok (.iload 6, 2) := by decide +kernel
theorem dX0_setBlock_23 : decode cX0_setBlock 23 = .ok (.iload_n 1, 1) := by decide +kernel
theorem dX0_setBlock_24 : decode cX0_setBlock 24 = .ok (.iand, 1) := by decide +kernel
theorem dX0_setBlock_25 : decode cX0_setBlock 25 = .ok (.iload_n 1, 1) := by decide +kernel
theorem dX0_setBlock_26 : decode cX0_setBlock 26 = .ok (.if_icmp .ne 17, 3) := by decide +kernel
theorem dX0_setBlock_29 : decode cX0_setBlock 29 = .ok (.iload 6, 2) := by decide +kernel
theorem dX0_setBlock_31 : decode cX0_setBlock 31 = .ok (.iload_n 2, 1) := by decide +kernel
theorem dX0_setBlock_32 : decode cX0_setBlock 32 = .ok (.iand, 1) := by decide +kernel
theorem dX0_setBlock_33 : decode cX0_setBlock 33 = .ok (.ifCond .ne 10, 3) := by decide +kernel
theorem dX0_setBlock_36 : decode cX0_setBlock 36 = .ok (.lload_n 3, 1) := by decide +kernel
theorem dX0_setBlock_37 : decode cX0_setBlock 37 = .ok (.lconst 1, 1) := by decide +kernel
theorem dX0_setBlock_38 : decode cX0_setBlock 38 = .ok (.iload 5, 2) := by decide +kernel
theorem dX0_setBlock_40 : decode cX0_setBlock 40 = .ok (.lshl, 1) := by decide +kernel
theorem dX0_setBlock_41 : decode cX0_setBlock 41 = .ok (.lor, 1) := by decide +kernel
theorem dX0_setBlock_42 : decode cX0_setBlock 42 = .ok (.lstore_n 3, 1) := by decide +kernel
theorem dX0_setBlock_43 : decode cX0_setBlock 43 = .ok (.iinc 5 1, 3) := by decide +kernel
theorem dX0_setBlock_46 : decode cX0_setBlock 46 = .ok (.goto (-41), 3) := by decide +kernel
theorem dX0_setBlock_49 : decode cX0_setBlock 49 = .ok (.lload_n 3, 1) := by decide +kernel
theorem dX0_setBlock_50 : decode cX0_setBlock 50 = .ok (.lreturn, 1) := by decide +kernel
set_option maxRecDepth 20000 in
theorem ggX0_someBlock_J6_bitCount_0f7a4 : GoodIn wsX0_someBlock wsJ6_bitCount_0f7a4 := goodIn_r _ [4, 5, 6, 7] (by decide +kernel) (by decide +kernel)
set_option maxRecDepth 20000 in
theorem gX0_someBlock_J6_bitCount_0f7a4 : GoodIn wsX0_someBlock (va_wsS RX0 154 yJ6_bitCount_0f7a4 wsJ6_bitCount_0f7a4) := goodIn_app (goodIn_of _ (by decide +kernel)) ggX0_someBlock_J6_bitCount_0f7a4
theorem dX0_someBlock_0 : decode cX0_someBlock 0 = .ok (.lconst 0, 1) := by decide +kernel
theorem dX0_someBlock_1 : decode cX0_someBlock 1 = .ok (.lstore 4, 2) := by decide +kernel
theorem dX0_someBlock_3 : decode cX0_someBlock 3 = .ok (.iconst 0, 1) := by decide +kernel
theorem dX0_someBlock_4 : decode cX0_someBlock 4 = .ok (.istore 6, 2) := by decide +kernel
theorem dX0_someBlock_6 : decode cX0_someBlock 6 = .ok (.iload 6, 2) := by decide +kernel
theorem dX0_someBlock_8 : decode cX0_someBlock 8 = .ok (.bipush 64, 2) := by decide +kernel
theorem dX0_someBlock_10 : decode cX0_someBlock 10 = .ok (.if_icmp .ge 44, 3) := by decide +kernel
theorem dX0_someBlock_13 : decode cX0_someBlock 13 = .ok (.iload_n 0, 1) := by decide +kernel
theorem dX0_someBlock_14 : decode cX0_someBlock 14 = .ok (.bipush 64, 2) := by decide +kernel
theorem dX0_someBlock_16 : decode cX0_someBlock 16 = .ok (.imul, 1) := by decide +kernel
theorem dX0_someBlock_17 : decode cX0_someBlock 17 = .ok (.iload 6, 2) := by decide +kernel
theorem dX0_someBlock_19 : decode cX0_someBlock 19 = .ok (.iadd, 1) := by decide +kernel
theorem dX0_someBlock_20 : decode cX0_someBlock 20 = .ok (.iload_n 1, 1) := by decide +kernel
theorem dX0_someBlock_21 : decode cX0_someBlock 21 = .ok (.iand, 1) := by decide +kernel
theorem dX0_someBlock_22 : decode cX0_someBlock 22 = .ok (.invokestatic 154, 3) := by decide +kernel
theorem dX0_someBlock_25 : decode cX0_someBlock 25 = .ok (.istore 7, 2) := by decide +kernel
theorem dX0_someBlock_27 : decode cX0_someBlock 27 = .ok (.iload 7, 2) := by decide +kernel
theorem dX0_someBlock_29 : decode cX0_someBlock 29 = .ok (.iload_n 2, 1) := by decide +kernel
theorem dX0_someBlock_30 : decode cX0_someBlock 30 = .ok (.if_icmp .lt 18, 3) := by decide +kernel
theorem dX0_someBlock_33 : decode cX0_someBlock 33 = .ok (.iload 7, 2) := by decide +kernel
theorem dX0_someBlock_35 : decode cX0_someBlock 35 = .ok (.iload_n 3, 1) := by decide +kernel
theorem dX0_someBlock_36 : decode cX0_someBlock 36 = .ok (.if_icmp .gt 12, 3) := by decide +kernel
theorem dX0_someBlock_39 : decode cX0_someBlock 39 = .ok (.lload 4, 2) := by decide +kernel
theorem dX0_someBlock_41 : decode cX0_someBlock 41 = .ok (.lconst 1, 1) := by decide +kernel
theorem dX0_someBlock_42 : decode cX0_someBlock 42 = .ok (.iload 6, 2) := by decide +kernel
theorem dX0_someBlock_44 : decode cX0_someBlock 44 = .ok (.lshl, 1) := by decide +kernel
theorem dX0_someBlock_45 : decode cX0_someBlock 45 = .ok (.lor, 1) := by decide +kernel
theorem dX0_someBlock_46 : decode cX0_someBlock 46 = .ok (.lstore 4, 2) := by decide +kernel
theorem dX0_someBlock_48 : decode cX0_someBlock 48 = .ok (.iinc 6 1, 3) := by decide +kernel
theorem dX0_someBlock_51 : decode cX0_someBlock 51 = .ok (.goto (-45), 3) := by decide +kernel
theorem dX0_someBlock_54 : decode cX0_someBlock 54 = .ok (.lload 4, 2) := by decide +kernel
theorem dX0_someBlock_56 : decode cX0_someBlock 56 = .ok (.lreturn, 1) := by decide +kernel
theorem dX0_joined_0 : decode cX0_joined 0 = .ok (.iload_n 0, 1) := by decide +kernel
theorem dX0_joined_1 : decode cX0_joined 1 = .ok (.tableswitch 39 0 2 #[27, 31, 35], 27) := by decide +kernel
theorem dX0_joined_28 : decode cX0_joined 28 = .ok (.lload_n 1, 1) := by decide +kernel
theorem dX0_joined_29 : decode cX0_joined 29 = .ok (.lload_n 3, 1) := by decide +kernel
theorem dX0_joined_30 : decode cX0_joined 30 = .ok (.land, 1) := by decide +kernel
theorem dX0_joined_31 : decode cX0_joined 31 = .ok (.lreturn, 1) := by decide +kernel
theorem dX0_joined_32 : decode cX0_joined 32 = .ok (.lload_n 1, 1) := by decide +kernel
theorem dX0_joined_33 : decode cX0_joined 33 = .ok (.lload_n 3, 1) := by decide +kernel
theorem dX0_joined_34 : decode cX0_joined 34 = .ok (.lor, 1) := by decide +kernel
theorem dX0_joined_35 : decode cX0_joined 35 = .ok (.lreturn, 1) := by decide +kernel
theorem dX0_joined_36 : decode cX0_joined 36 = .ok (.lload_n 1, 1) := by decide +kernel
theorem dX0_joined_37 : decode cX0_joined 37 = .ok (.lload_n 3, 1) := by decide +kernel
theorem dX0_joined_38 : decode cX0_joined 38 = .ok (.lxor, 1) := by decide +kernel
theorem dX0_joined_39 : decode cX0_joined 39 = .ok (.lreturn, 1) := by decide +kernel
theorem dX0_joined_40 : decode cX0_joined 40 = .ok (.lload_n 1, 1) := by decide +kernel
theorem dX0_joined_41 : decode cX0_joined 41 = .ok (.ldc2_w 98, 3) := by decide +kernel
theorem dX0_joined_44 : decode cX0_joined 44 = .ok (.lxor, 1) := by decide +kernel
theorem dX0_joined_45 : decode cX0_joined 45 = .ok (.lreturn, 1) := by decide +kernel
set_option maxRecDepth 20000 in
theorem ggX0_hangsOn_X0_changesWith : GoodIn wsX0_hangsOn wsX0_changesWith := goodIn_r _ [5, 6, 7, 8, 9, 4, 10, 11, 12, 13, 14, 15, 16, 17, 18, 19, 20, 21, 22, 23, 24, 25, 26, 27] (by decide +kernel) (by decide +kernel)
set_option maxRecDepth 20000 in
theorem gX0_hangsOn_X0_changesWith : GoodIn wsX0_hangsOn (wsV RX0 158 RX0 yX0_changesWith wsX0_changesWith) := goodIn_app (goodIn_of _ (by decide +kernel)) ggX0_hangsOn_X0_changesWith
theorem dX0_hangsOn_0 : decode cX0_hangsOn 0 = .ok (.iconst 0, 1) := by decide +kernel
theorem dX0_hangsOn_1 : decode cX0_hangsOn 1 = .ok (.istore_n 3, 1) := by decide +kernel
theorem dX0_hangsOn_2 : decode cX0_hangsOn 2 = .ok (.iload_n 3, 1) := by decide +kernel
theorem dX0_hangsOn_3 : decode cX0_hangsOn 3 = .ok (.bipush 64, 2) := by decide +kernel
theorem dX0_hangsOn_5 : decode cX0_hangsOn 5 = .ok (.if_icmp .ge 21, 3) := by decide +kernel
theorem dX0_hangsOn_8 : decode cX0_hangsOn 8 = .ok (.aload_n 0, 1) := by decide +kernel
theorem dX0_hangsOn_9 : decode cX0_hangsOn 9 = .ok (.iload_n 1, 1) := by decide +kernel
theorem dX0_hangsOn_10 : decode cX0_hangsOn 10 = .ok (.iload_n 3, 1) := by decide +kernel
theorem dX0_hangsOn_11 : decode cX0_hangsOn 11 = .ok (.iload_n 2, 1) := by decide +kernel
theorem dX0_hangsOn_12 : decode cX0_hangsOn 12 = .ok (.invokevirtual 158, 3) := by decide +kernel
theorem dX0_hangsOn_15 : decode cX0_hangsOn 15 = .ok (.ifCond .eq 5, 3) := by decide +kernel
theorem dX0_hangsOn_18 : decode cX0_hangsOn 18 = .ok (.iconst 1, 1) := by decide +kernel
theorem dX0_hangsOn_19 : decode cX0_hangsOn 19 = .ok (.ireturn, 1) := by decide +kernel
theorem dX0_hangsOn_20 : decode cX0_hangsOn 20 = .ok (.iinc 3 1, 3) := by decide +kernel
theorem dX0_hangsOn_23 : decode cX0_hangsOn 23 = .ok (.goto (-21), 3) := by decide +kernel
theorem dX0_hangsOn_26 : decode cX0_hangsOn 26 = .ok (.iconst 0, 1) := by decide +kernel
theorem dX0_hangsOn_27 : decode cX0_hangsOn 27 = .ok (.ireturn, 1) := by decide +kernel
set_option maxRecDepth 20000 in
theorem ggX0_changesWith_X0_blockOf : GoodIn wsX0_changesWith wsX0_blockOf := goodIn_r _ [6, 7, 8, 9, 10, 5, 11, 12, 13, 14, 15, 16, 17, 18, 19, 20, 21, 22, 23] (by decide +kernel) (by decide +kernel)
set_option maxRecDepth 20000 in
theorem gX0_changesWith_X0_blockOf : GoodIn wsX0_changesWith (wsV RX0 77 RX0 yX0_blockOf wsX0_blockOf) := goodIn_app (goodIn_of _ (by decide +kernel)) ggX0_changesWith_X0_blockOf
set_option maxRecDepth 20000 in
theorem ggX0_changesWith_X0_at : GoodIn wsX0_changesWith wsX0_at := goodIn_r _ [15] (by decide +kernel) (by decide +kernel)
set_option maxRecDepth 20000 in
theorem gX0_changesWith_X0_at : GoodIn wsX0_changesWith (va_wsS RX0 146 yX0_at wsX0_at) := goodIn_app (goodIn_of _ (by decide +kernel)) ggX0_changesWith_X0_at
theorem dX0_changesWith_0 : decode cX0_changesWith 0 = .ok (.aload_n 0, 1) := by decide +kernel
theorem dX0_changesWith_1 : decode cX0_changesWith 1 = .ok (.iload_n 1, 1) := by decide +kernel
theorem dX0_changesWith_2 : decode cX0_changesWith 2 = .ok (.iload_n 2, 1) := by decide +kernel
theorem dX0_changesWith_3 : decode cX0_changesWith 3 = .ok (.invokevirtual 77, 3) := by decide +kernel
theorem dX0_changesWith_6 : decode cX0_changesWith 6 = .ok (.lstore 4, 2) := by decide +kernel
theorem dX0_changesWith_8 : decode cX0_changesWith 8 = .ok (.iload_n 3, 1) := by decide +kernel
theorem dX0_changesWith_9 : decode cX0_changesWith 9 = .ok (.bipush 6, 2) := by decide +kernel
theorem dX0_changesWith_11 : decode cX0_changesWith 11 = .ok (.if_icmp .ge 35, 3) := by decide +kernel
theorem dX0_changesWith_14 : decode cX0_changesWith 14 = .ok (.lload 4, 2) := by decide +kernel
theorem dX0_changesWith_16 : decode cX0_changesWith 16 = .ok (.iconst 1, 1) := by decide +kernel
theorem dX0_changesWith_17 : decode cX0_changesWith 17 = .ok (.iload_n 3, 1) := by decide +kernel
theorem dX0_changesWith_18 : decode cX0_changesWith 18 = .ok (.ishl, 1) := by decide +kernel
theorem dX0_changesWith_19 : decode cX0_changesWith 19 = .ok (.lushr, 1) := by decide +kernel
theorem dX0_changesWith_20 : decode cX0_changesWith 20 = .ok (.lstore 6, 2) := by decide +kernel
theorem dX0_changesWith_22 : decode cX0_changesWith 22 = .ok (.lload 4, 2) := by decide +kernel
theorem dX0_changesWith_24 : decode cX0_changesWith 24 = .ok (.lload 6, 2) := by decide +kernel
theorem dX0_changesWith_26 : decode cX0_changesWith 26 = .ok (.lxor, 1) := by decide +kernel
theorem dX0_changesWith_27 : decode cX0_changesWith 27 = .ok (.getstatic 162, 3) := by decide +kernel
theorem dX0_changesWith_30 : decode cX0_changesWith 30 = .ok (.iload_n 3, 1) := by decide +kernel
theorem dX0_changesWith_31 : decode cX0_changesWith 31 = .ok (.invokestatic 146, 3) := by decide +kernel
theorem dX0_changesWith_34 : decode cX0_changesWith 34 = .ok (.land, 1) := by decide +kernel
theorem dX0_changesWith_35 : decode cX0_changesWith 35 = .ok (.lconst 0, 1) := by decide +kernel
theorem dX0_changesWith_36 : decode cX0_changesWith 36 = .ok (.lcmp, 1) := by decide +kernel
theorem dX0_changesWith_37 : decode cX0_changesWith 37 = .ok (.ifCond .eq 7, 3) := by decide +kernel
theorem dX0_changesWith_40 : decode cX0_changesWith 40 = .ok (.iconst 1, 1) := by decide +kernel
theorem dX0_changesWith_41 : decode cX0_changesWith 41 = .ok (.goto 4, 3) := by decide +kernel
theorem dX0_changesWith_44 : decode cX0_changesWith 44 = .ok (.iconst 0, 1) := by decide +kernel
theorem dX0_changesWith_45 : decode cX0_changesWith 45 = .ok (.ireturn, 1) := by decide +kernel
theorem dX0_changesWith_46 : decode cX0_changesWith 46 = .ok (.lload 4, 2) := by decide +kernel
theorem dX0_changesWith_48 : decode cX0_changesWith 48 = .ok (.aload_n 0, 1) := by decide +kernel
theorem dX0_changesWith_49 : decode cX0_changesWith 49 = .ok (.iload_n 1, 1) := by decide +kernel
theorem dX0_changesWith_50 : decode cX0_changesWith 50 = .ok (.iload_n 2, 1) := by decide +kernel
theorem dX0_changesWith_51 : decode cX0_changesWith 51 = .ok (.iconst 1, 1) := by decide +kernel
theorem dX0_changesWith_52 : decode cX0_changesWith 52 = .ok (.iload_n 3, 1) := by decide +kernel
theorem dX0_changesWith_53 : decode cX0_changesWith 53 = .ok (.bipush 6, 2) := by decide +kernel
theorem dX0_changesWith_55 : decode cX0_changesWith 55 = .ok (.isub, 1) := by decide +kernel
theorem dX0_changesWith_56 : decode cX0_changesWith 56 = .ok (.ishl, 1) := by decide +kernel
theorem dX0_changesWith_57 : decode cX0_changesWith 57 = .ok (.ixor, 1) := by decide +kernel
theorem dX0_changesWith_58 : decode cX0_changesWith 58 = .ok (.invokevirtual 77, 3) := by decide +kernel
theorem dX0_changesWith_61 : decode cX0_changesWith 61 = .ok (.lcmp, 1) := by decide +kernel
theorem dX0_changesWith_62 : decode cX0_changesWith 62 = .ok (.ifCond .eq 7, 3) := by decide +kernel
theorem dX0_changesWith_65 : decode cX0_changesWith 65 = .ok (.iconst 1, 1) := by decide +kernel
theorem dX0_changesWith_66 : decode cX0_changesWith 66 = .ok (.goto 4, 3) := by decide +kernel
theorem dX0_changesWith_69 : decode cX0_changesWith 69 = .ok (.iconst 0, 1) := by decide +kernel
theorem dX0_changesWith_70 : decode cX0_changesWith 70 = .ok (.ireturn, 1) := by decide +kernel
set_option maxRecDepth 20000 in
theorem ggX0_putOdds_X0_put : GoodIn wsX0_putOdds wsX0_put := goodIn_r _ [6] (by decide +kernel) (by decide +kernel)
set_option maxRecDepth 20000 in
theorem gX0_putOdds_X0_put : GoodIn wsX0_putOdds (va_wsS RX0 36 yX0_put wsX0_put) := goodIn_app (goodIn_of _ (by decide +kernel)) ggX0_putOdds_X0_put
set_option maxRecDepth 20000 in
theorem ggX0_putOdds_X0_weigh : GoodIn wsX0_putOdds wsX0_weigh := goodIn_r _ [10, 11, 12, 13, 14, 15, 5, 16, 1, 2, 3, 4, 6, 17, 18, 19, 20, 21, 22, 23, 24, 25, 26, 27] (by decide +kernel) (by decide +kernel)
set_option maxRecDepth 20000 in
theorem gX0_putOdds_X0_weigh : GoodIn wsX0_putOdds (wsV RX0 40 RX0 yX0_weigh wsX0_weigh) := goodIn_app (goodIn_of _ (by decide +kernel)) ggX0_putOdds_X0_weigh
theorem dX0_putOdds_0 : decode cX0_putOdds 0 = .ok (.aload_n 0, 1) := by decide +kernel
theorem dX0_putOdds_1 : decode cX0_putOdds 1 = .ok (.getfield 9, 3) := by decide +kernel
theorem dX0_putOdds_4 : decode cX0_putOdds 4 = .ok (.iload_n 1, 1) := by decide +kernel
theorem dX0_putOdds_5 : decode cX0_putOdds 5 = .ok (.lload_n 2, 1) := by decide +kernel
theorem dX0_putOdds_6 : decode cX0_putOdds 6 = .ok (.invokestatic 36, 3) := by decide +kernel
theorem dX0_putOdds_9 : decode cX0_putOdds 9 = .ok (.aload_n 0, 1) := by decide +kernel
theorem dX0_putOdds_10 : decode cX0_putOdds 10 = .ok (.getfield 13, 3) := by decide +kernel
theorem dX0_putOdds_13 : decode cX0_putOdds 13 = .ok (.iload_n 1, 1) := by decide +kernel
theorem dX0_putOdds_14 : decode cX0_putOdds 14 = .ok (.lload 4, 2) := by decide +kernel
theorem dX0_putOdds_16 : decode cX0_putOdds 16 = .ok (.invokestatic 36, 3) := by decide +kernel
theorem dX0_putOdds_19 : decode cX0_putOdds 19 = .ok (.aload_n 0, 1) := by decide +kernel
theorem dX0_putOdds_20 : decode cX0_putOdds 20 = .ok (.invokevirtual 40, 3) := by decide +kernel
theorem dX0_putOdds_23 : decode cX0_putOdds 23 = .ok (.return_, 1) := by decide +kernel
set_option maxRecDepth 20000 in
theorem ggX0_weigh_X0_weighHalf : GoodIn wsX0_weigh wsX0_weighHalf := goodIn_r _ [7, 8, 9, 10, 11, 6, 12, 13, 14, 15, 16, 17, 18, 19, 20, 21, 22, 23] (by decide +kernel) (by decide +kernel)
set_option maxRecDepth 20000 in
theorem gX0_weigh_X0_weighHalf : GoodIn wsX0_weigh (wsV RX0 165 RX0 yX0_weighHalf wsX0_weighHalf) := goodIn_app (goodIn_of _ (by decide +kernel)) ggX0_weigh_X0_weighHalf
theorem dX0_weigh_0 : decode cX0_weigh 0 = .ok (.aload_n 0, 1) := by decide +kernel
theorem dX0_weigh_1 : decode cX0_weigh 1 = .ok (.aload_n 0, 1) := by decide +kernel
theorem dX0_weigh_2 : decode cX0_weigh 2 = .ok (.getfield 16, 3) := by decide +kernel
theorem dX0_weigh_5 : decode cX0_weigh 5 = .ok (.iconst 0, 1) := by decide +kernel
theorem dX0_weigh_6 : decode cX0_weigh 6 = .ok (.invokevirtual 165, 3) := by decide +kernel
theorem dX0_weigh_9 : decode cX0_weigh 9 = .ok (.aload_n 0, 1) := by decide +kernel
theorem dX0_weigh_10 : decode cX0_weigh 10 = .ok (.aload_n 0, 1) := by decide +kernel
theorem dX0_weigh_11 : decode cX0_weigh 11 = .ok (.getfield 19, 3) := by decide +kernel
theorem dX0_weigh_14 : decode cX0_weigh 14 = .ok (.bipush 6, 2) := by decide +kernel
theorem dX0_weigh_16 : decode cX0_weigh 16 = .ok (.invokevirtual 165, 3) := by decide +kernel
theorem dX0_weigh_19 : decode cX0_weigh 19 = .ok (.return_, 1) := by decide +kernel
set_option maxRecDepth 20000 in
theorem ggX0_weighHalf_X0_put : GoodIn wsX0_weighHalf wsX0_put := goodIn_r _ [6] (by decide +kernel) (by decide +kernel)
set_option maxRecDepth 20000 in
theorem gX0_weighHalf_X0_put : GoodIn wsX0_weighHalf (va_wsS RX0 36 yX0_put wsX0_put) := goodIn_app (goodIn_of _ (by decide +kernel)) ggX0_weighHalf_X0_put
set_option maxRecDepth 20000 in
theorem ggX0_weighHalf_X0_at : GoodIn wsX0_weighHalf wsX0_at := goodIn_r _ [9] (by decide +kernel) (by decide +kernel)
set_option maxRecDepth 20000 in
theorem gX0_weighHalf_X0_at : GoodIn wsX0_weighHalf (va_wsS RX0 146 yX0_at wsX0_at) := goodIn_app (goodIn_of _ (by decide +kernel)) ggX0_weighHalf_X0_at
theorem dX0_weighHalf_0 : decode cX0_weighHalf 0 = .ok (.aload_n 1, 1) := by decide +kernel
theorem dX0_weighHalf_1 : decode cX0_weighHalf 1 = .ok (.iconst 0, 1) := by decide +kernel
theorem dX0_weighHalf_2 : decode cX0_weighHalf 2 = .ok (.lconst 1, 1) := by decide +kernel
theorem dX0_weighHalf_3 : decode cX0_weighHalf 3 = .ok (.invokestatic 36, 3) := by decide +kernel
theorem dX0_weighHalf_6 : decode cX0_weighHalf 6 = .ok (.iconst 0, 1) := by decide +kernel
theorem dX0_weighHalf_7 : decode cX0_weighHalf 7 = .ok (.istore_n 3, 1) := by decide +kernel
theorem dX0_weighHalf_8 : decode cX0_weighHalf 8 = .ok (.iload_n 3, 1) := by decide +kernel
theorem dX0_weighHalf_9 : decode cX0_weighHalf 9 = .ok (.bipush 6, 2) := by decide +kernel
theorem dX0_weighHalf_11 : decode cX0_weighHalf 11 = .ok (.if_icmp .ge 90, 3) := by decide +kernel
theorem dX0_weighHalf_14 : decode cX0_weighHalf 14 = .ok (.aload_n 0, 1) := by decide +kernel
theorem dX0_weighHalf_15 : decode cX0_weighHalf 15 = .ok (.getfield 9, 3) := by decide +kernel
theorem dX0_weighHalf_18 : decode cX0_weighHalf 18 = .ok (.iload_n 2, 1) := by decide +kernel
theorem dX0_weighHalf_19 : decode cX0_weighHalf 19 = .ok (.iload_n 3, 1) := by decide +kernel
theorem dX0_weighHalf_20 : decode cX0_weighHalf 20 = .ok (.iadd, 1) := by decide +kernel
theorem dX0_weighHalf_21 : decode cX0_weighHalf 21 = .ok (.invokestatic 146, 3) := by decide +kernel
theorem dX0_weighHalf_24 : decode cX0_weighHalf 24 = .ok (.lstore 4, 2) := by decide +kernel
theorem dX0_weighHalf_26 : decode cX0_weighHalf 26 = .ok (.aload_n 0, 1) := by decide +kernel
theorem dX0_weighHalf_27 : decode cX0_weighHalf 27 = .ok (.getfield 13, 3) := by decide +kernel
theorem dX0_weighHalf_30 : decode cX0_weighHalf 30 = .ok (.iload_n 2, 1) := by decide +kernel
theorem dX0_weighHalf_31 : decode cX0_weighHalf 31 = .ok (.iload_n 3, 1) := by decide +kernel
theorem dX0_weighHalf_32 : decode cX0_weighHalf 32 = .ok (.iadd, 1) := by decide +kernel
theorem dX0_weighHalf_33 : decode cX0_weighHalf 33 = .ok (.invokestatic 146, 3) := by decide +kernel
theorem dX0_weighHalf_36 : decode cX0_weighHalf 36 = .ok (.lload 4, 2) := by decide +kernel
theorem dX0_weighHalf_38 : decode cX0_weighHalf 38 = .ok (.lsub, 1) := by decide +kernel
theorem dX0_weighHalf_39 : decode cX0_weighHalf 39 = .ok (.lstore 6, 2) := by decide +kernel
theorem dX0_weighHalf_41 : decode cX0_weighHalf 41 = .ok (.iconst 1, 1) := by decide +kernel
theorem dX0_weighHalf_42 : decode cX0_weighHalf 42 = .ok (.iload_n 3, 1) := by decide +kernel
theorem dX0_weighHalf_43 : decode cX0_weighHalf 43 = .ok (.ishl, 1) := by decide +kernel
theorem dX0_weighHalf_44 : decode cX0_weighHalf 44 = .ok (.istore 8, 2) := by decide +kernel
theorem dX0_weighHalf_46 : decode cX0_weighHalf 46 = .ok (.iconst 0, 1) := by decide +kernel
theorem dX0_weighHalf_47 : decode cX0_weighHalf 47 = .ok (.istore 9, 2) := by decide +kernel
theorem dX0_weighHalf_49 : decode cX0_weighHalf 49 = .ok (.iload 9, 2) := by decide +kernel
theorem dX0_weighHalf_51 : decode cX0_weighHalf 51 = .ok (.iload 8, 2) := by decide +kernel
theorem dX0_weighHalf_53 : decode cX0_weighHalf 53 = .ok (.if_icmp .ge 42, 3) := by decide +kernel
theorem dX0_weighHalf_56 : decode cX0_weighHalf 56 = .ok (.aload_n 1, 1) := by decide +kernel
theorem dX0_weighHalf_57 : decode cX0_weighHalf 57 = .ok (.iload 9, 2) := by decide +kernel
theorem dX0_weighHalf_59 : decode cX0_weighHalf 59 = .ok (.invokestatic 146, 3) := by decide +kernel
theorem dX0_weighHalf_62 : decode cX0_weighHalf 62 = .ok (.lstore 10, 2) := by decide +kernel
theorem dX0_weighHalf_64 : decode cX0_weighHalf 64 = .ok (.aload_n 1, 1) := by decide +kernel
theorem dX0_weighHalf_65 : decode cX0_weighHalf 65 = .ok (.iload 9, 2) := by decide +kernel
theorem dX0_weighHalf_67 : decode cX0_weighHalf 67 = .ok (.lload 10, 2) := by decide +kernel
theorem dX0_weighHalf_69 : decode cX0_weighHalf 69 = .ok (.lload 6, 2) := by decide +kernel
theorem dX0_weighHalf_71 : decode cX0_weighHalf 71 = .ok (.lmul, 1) := by decide +kernel
theorem dX0_weighHalf_72 : decode cX0_weighHalf 72 = .ok (.invokestatic 36, 3) := by decide +kernel
theorem dX0_weighHalf_75 : decode cX0_weighHalf 75 = .ok (.aload_n 1, 1) := by decide +kernel
theorem dX0_weighHalf_76 : decode cX0_weighHalf 76 = .ok (.iload 9, 2) := by decide +kernel
theorem dX0_weighHalf_78 : decode cX0_weighHalf 78 = .ok (.iload 8, 2) := by decide +kernel
theorem dX0_weighHalf_80 : decode cX0_weighHalf 80 = .ok (.iadd, 1) := by decide +kernel
theorem dX0_weighHalf_81 : decode cX0_weighHalf 81 = .ok (.lload 10, 2) := by decide +kernel
theorem dX0_weighHalf_83 : decode cX0_weighHalf 83 = .ok (.lload 4, 2) := by decide +kernel
theorem dX0_weighHalf_85 : decode cX0_weighHalf 85 = .ok (.lmul, 1) := by decide +kernel
theorem dX0_weighHalf_86 : decode cX0_weighHalf 86 = .ok (.invokestatic 36, 3) := by decide +kernel
theorem dX0_weighHalf_89 : decode cX0_weighHalf 89 = .ok (.iinc 9 1, 3) := by decide +kernel
theorem dX0_weighHalf_92 : decode cX0_weighHalf 92 = .ok (.goto (-43), 3) := by decide +kernel
theorem dX0_weighHalf_95 : decode cX0_weighHalf 95 = .ok (.iinc 3 1, 3) := by decide +kernel
theorem dX0_weighHalf_98 : decode cX0_weighHalf 98 = .ok (.goto (-90), 3) := by decide +kernel
theorem dX0_weighHalf_101 : decode cX0_weighHalf 101 = .ok (.return_, 1) := by decide +kernel
set_option maxRecDepth 20000 in
theorem ggX0_weightOf_X0_at : GoodIn wsX0_weightOf wsX0_at := goodIn_r _ [6] (by decide +kernel) (by decide +kernel)
set_option maxRecDepth 20000 in
theorem gX0_weightOf_X0_at : GoodIn wsX0_weightOf (va_wsS RX0 146 yX0_at wsX0_at) := goodIn_app (goodIn_of _ (by decide +kernel)) ggX0_weightOf_X0_at
theorem dX0_weightOf_0 : decode cX0_weightOf 0 = .ok (.aload_n 0, 1) := by decide +kernel
theorem dX0_weightOf_1 : decode cX0_weightOf 1 = .ok (.getfield 16, 3) := by decide +kernel
theorem dX0_weightOf_4 : decode cX0_weightOf 4 = .ok (.iload_n 1, 1) := by decide +kernel
theorem dX0_weightOf_5 : decode cX0_weightOf 5 = .ok (.bipush 64, 2) := by decide +kernel
theorem dX0_weightOf_7 : decode cX0_weightOf 7 = .ok (.irem, 1) := by decide +kernel
theorem dX0_weightOf_8 : decode cX0_weightOf 8 = .ok (.invokestatic 146, 3) := by decide +kernel
theorem dX0_weightOf_11 : decode cX0_weightOf 11 = .ok (.aload_n 0, 1) := by decide +kernel
theorem dX0_weightOf_12 : decode cX0_weightOf 12 = .ok (.getfield 19, 3) := by decide +kernel
theorem dX0_weightOf_15 : decode cX0_weightOf 15 = .ok (.iload_n 1, 1) := by decide +kernel
theorem dX0_weightOf_16 : decode cX0_weightOf 16 = .ok (.bipush 64, 2) := by decide +kernel
theorem dX0_weightOf_18 : decode cX0_weightOf 18 = .ok (.idiv, 1) := by decide +kernel
theorem dX0_weightOf_19 : decode cX0_weightOf 19 = .ok (.invokestatic 146, 3) := by decide +kernel
theorem dX0_weightOf_22 : decode cX0_weightOf 22 = .ok (.lmul, 1) := by decide +kernel
theorem dX0_weightOf_23 : decode cX0_weightOf 23 = .ok (.lreturn, 1) := by decide +kernel
set_option maxRecDepth 20000 in
theorem ggX0_sumOfBoth_X0_at : GoodIn wsX0_sumOfBoth wsX0_at := goodIn_r _ [5] (by decide +kernel) (by decide +kernel)
set_option maxRecDepth 20000 in
theorem gX0_sumOfBoth_X0_at : GoodIn wsX0_sumOfBoth (va_wsS RX0 146 yX0_at wsX0_at) := goodIn_app (goodIn_of _ (by decide +kernel)) ggX0_sumOfBoth_X0_at
set_option maxRecDepth 20000 in
theorem ggX0_sumOfBoth_X0_blockOf : GoodIn wsX0_sumOfBoth wsX0_blockOf := goodIn_r _ [9, 10, 11, 12, 13, 4, 14, 15, 2, 3, 5, 24, 25, 26, 27, 28, 29, 30, 31] (by decide +kernel) (by decide +kernel)
set_option maxRecDepth 20000 in
theorem gX0_sumOfBoth_X0_blockOf : GoodIn wsX0_sumOfBoth (wsV RX0 77 RX0 yX0_blockOf wsX0_blockOf) := goodIn_app (goodIn_of _ (by decide +kernel)) ggX0_sumOfBoth_X0_blockOf
set_option maxRecDepth 20000 in
theorem ggX0_sumOfBoth_X0_lowerSum : GoodIn wsX0_sumOfBoth wsX0_lowerSum := goodIn_r _ [19, 20, 21, 22, 4, 23, 2, 3, 5, 24, 25, 26, 27, 28, 29, 30, 31] (by decide +kernel) (by decide +kernel)
set_option maxRecDepth 20000 in
theorem gX0_sumOfBoth_X0_lowerSum : GoodIn wsX0_sumOfBoth (wsV RX0 169 RX0 yX0_lowerSum wsX0_lowerSum) := goodIn_app (goodIn_of _ (by decide +kernel)) ggX0_sumOfBoth_X0_lowerSum
theorem dX0_sumOfBoth_0 : decode cX0_sumOfBoth 0 = .ok (.lconst 0, 1) := by decide +kernel
theorem dX0_sumOfBoth_1 : decode cX0_sumOfBoth 1 = .ok (.lstore_n 3, 1) := by decide +kernel
theorem dX0_sumOfBoth_2 : decode cX0_sumOfBoth 2 = .ok (.iconst 0, 1) := by decide +kernel
theorem dX0_sumOfBoth_3 : decode cX0_sumOfBoth 3 = .ok (.istore 5, 2) := by decide +kernel
theorem dX0_sumOfBoth_5 : decode cX0_sumOfBoth 5 = .ok (.iload 5, 2) := by decide +kernel
theorem dX0_sumOfBoth_7 : decode cX0_sumOfBoth 7 = .ok (.bipush 64, 2) := by decide +kernel
theorem dX0_sumOfBoth_9 : decode cX0_sumOfBoth 9 = .ok (.if_icmp .ge 52, 3) := by decide +kernel
theorem dX0_sumOfBoth_12 : decode cX0_sumOfBoth 12 = .ok (.aload_n 0, 1) := by decide +kernel
theorem dX0_sumOfBoth_13 : decode cX0_sumOfBoth 13 = .ok (.getfield 19, 3) := by decide +kernel
theorem dX0_sumOfBoth_16 : decode cX0_sumOfBoth 16 = .ok (.iload 5, 2) := by decide +kernel
theorem dX0_sumOfBoth_18 : decode cX0_sumOfBoth 18 = .ok (.invokestatic 146, 3) := by decide +kernel
theorem dX0_sumOfBoth_21 : decode cX0_sumOfBoth 21 = .ok (.lstore 6, 2) := by decide +kernel
theorem dX0_sumOfBoth_23 : decode cX0_sumOfBoth 23 = .ok (.lload 6, 2) := by decide +kernel
theorem dX0_sumOfBoth_25 : decode cX0_sumOfBoth 25 = .ok (.lconst 0, 1) := by decide +kernel
theorem dX0_sumOfBoth_26 : decode cX0_sumOfBoth 26 = .ok (.lcmp, 1) := by decide +kernel
theorem dX0_sumOfBoth_27 : decode cX0_sumOfBoth 27 = .ok (.ifCond .eq 28, 3) := by decide +kernel
theorem dX0_sumOfBoth_30 : decode cX0_sumOfBoth 30 = .ok (.lload_n 3, 1) := by decide +kernel
theorem dX0_sumOfBoth_31 : decode cX0_sumOfBoth 31 = .ok (.lload 6, 2) := by decide +kernel
theorem dX0_sumOfBoth_33 : decode cX0_sumOfBoth 33 = .ok (.aload_n 0, 1) := by decide +kernel
theorem dX0_sumOfBoth_34 : decode cX0_sumOfBoth 34 = .ok (.aload_n 0, 1) := by decide +kernel
theorem dX0_sumOfBoth_35 : decode cX0_sumOfBoth 35 = .ok (.iload_n 1, 1) := by decide +kernel
theorem dX0_sumOfBoth_36 : decode cX0_sumOfBoth 36 = .ok (.iload 5, 2) := by decide +kernel
theorem dX0_sumOfBoth_38 : decode cX0_sumOfBoth 38 = .ok (.invokevirtual 77, 3) := by decide +kernel
theorem dX0_sumOfBoth_41 : decode cX0_sumOfBoth 41 = .ok (.aload_n 0, 1) := by decide +kernel
theorem dX0_sumOfBoth_42 : decode cX0_sumOfBoth 42 = .ok (.iload_n 2, 1) := by decide +kernel
theorem dX0_sumOfBoth_43 : decode cX0_sumOfBoth 43 = .ok (.iload 5, 2) := by decide +kernel
theorem dX0_sumOfBoth_45 : decode cX0_sumOfBoth 45 = .ok (.invokevirtual 77, 3) := by decide +kernel
theorem dX0_sumOfBoth_48 : decode cX0_sumOfBoth 48 = .ok (.land, 1) := by decide +kernel
theorem dX0_sumOfBoth_49 : decode cX0_sumOfBoth 49 = .ok (.invokevirtual 169, 3) := by decide +kernel
theorem dX0_sumOfBoth_52 : decode cX0_sumOfBoth 52 = .ok (.lmul, 1) := by decide +kernel
theorem dX0_sumOfBoth_53 : decode cX0_sumOfBoth 53 = .ok (.ladd, 1) := by decide +kernel
theorem dX0_sumOfBoth_54 : decode cX0_sumOfBoth 54 = .ok (.lstore_n 3, 1) := by decide +kernel
theorem dX0_sumOfBoth_55 : decode cX0_sumOfBoth 55 = .ok (.iinc 5 1, 3) := by decide +kernel
theorem dX0_sumOfBoth_58 : decode cX0_sumOfBoth 58 = .ok (.goto (-53), 3) := by decide +kernel
theorem dX0_sumOfBoth_61 : decode cX0_sumOfBoth 61 = .ok (.lload_n 3, 1) := by decide +kernel
theorem dX0_sumOfBoth_62 : decode cX0_sumOfBoth 62 = .ok (.lreturn, 1) := by decide +kernel
set_option maxRecDepth 20000 in
theorem ggX0_lowerSum_X0_isBitOn : GoodIn wsX0_lowerSum wsX0_isBitOn := goodIn_r _ [5] (by decide +kernel) (by decide +kernel)
set_option maxRecDepth 20000 in
theorem gX0_lowerSum_X0_isBitOn : GoodIn wsX0_lowerSum (va_wsS RX0 150 yX0_isBitOn wsX0_isBitOn) := goodIn_app (goodIn_of _ (by decide +kernel)) ggX0_lowerSum_X0_isBitOn
set_option maxRecDepth 20000 in
theorem ggX0_lowerSum_X0_at : GoodIn wsX0_lowerSum wsX0_at := goodIn_r _ [8] (by decide +kernel) (by decide +kernel)
set_option maxRecDepth 20000 in
theorem gX0_lowerSum_X0_at : GoodIn wsX0_lowerSum (va_wsS RX0 146 yX0_at wsX0_at) := goodIn_app (goodIn_of _ (by decide +kernel)) ggX0_lowerSum_X0_at
theorem dX0_lowerSum_0 : decode cX0_lowerSum 0 = .ok (.lconst 0, 1) := by decide +kernel
theorem dX0_lowerSum_1 : decode cX0_lowerSum 1 = .ok (.lstore_n 3, 1) := by decide +kernel
theorem dX0_lowerSum_2 : decode cX0_lowerSum 2 = .ok (.iconst 0, 1) := by decide +kernel
theorem dX0_lowerSum_3 : decode cX0_lowerSum 3 = .ok (.istore 5, 2) := by decide +kernel
theorem dX0_lowerSum_5 : decode cX0_lowerSum 5 = .ok (.iload 5, 2) := by decide +kernel
theorem dX0_lowerSum_7 : decode cX0_lowerSum 7 = .ok (.bipush 64, 2) := by decide +kernel
theorem dX0_lowerSum_9 : decode cX0_lowerSum 9 = .ok (.if_icmp .ge 30, 3) := by decide +kernel
theorem dX0_lowerSum_12 : decode cX0_lowerSum 12 = .ok (.lload_n 1, 1) := by decide +kernel
theorem dX0_lowerSum_13 : decode cX0_lowerSum 13 = .ok (.iload 5, 2) := by decide +kernel
theorem dX0_lowerSum_15 : decode cX0_lowerSum 15 = .ok (.invokestatic 150, 3) := by decide +kernel
theorem dX0_lowerSum_18 : decode cX0_lowerSum 18 = .ok (.ifCond .eq 15, 3) := by decide +kernel
theorem dX0_lowerSum_21 : decode cX0_lowerSum 21 = .ok (.lload_n 3, 1) := by decide +kernel
theorem dX0_lowerSum_22 : decode cX0_lowerSum 22 = .ok (.aload_n 0, 1) := by decide +kernel
theorem dX0_lowerSum_23 : decode cX0_lowerSum 23 = .ok (.getfield 16, 3) := by decide +kernel
theorem dX0_lowerSum_26 : decode cX0_lowerSum 26 = .ok (.iload 5, 2) := by decide +kernel
theorem dX0_lowerSum_28 : decode cX0_lowerSum 28 = .ok (.invokestatic 146, 3) := by decide +kernel
theorem dX0_lowerSum_31 : decode cX0_lowerSum 31 = .ok (.ladd, 1) := by decide +kernel
theorem dX0_lowerSum_32 : decode cX0_lowerSum 32 = .ok (.lstore_n 3, 1) := by decide +kernel
theorem dX0_lowerSum_33 : decode cX0_lowerSum 33 = .ok (.iinc 5 1, 3) := by decide +kernel
theorem dX0_lowerSum_36 : decode cX0_lowerSum 36 = .ok (.goto (-31), 3) := by decide +kernel
theorem dX0_lowerSum_39 : decode cX0_lowerSum 39 = .ok (.lload_n 3, 1) := by decide +kernel
theorem dX0_lowerSum_40 : decode cX0_lowerSum 40 = .ok (.lreturn, 1) := by decide +kernel
set_option maxRecDepth 20000 in
theorem ggX0_sumWhenSurely_X0_at : GoodIn wsX0_sumWhenSurely wsX0_at := goodIn_r _ [6] (by decide +kernel) (by decide +kernel)
set_option maxRecDepth 20000 in
theorem gX0_sumWhenSurely_X0_at : GoodIn wsX0_sumWhenSurely (va_wsS RX0 146 yX0_at wsX0_at) := goodIn_app (goodIn_of _ (by decide +kernel)) ggX0_sumWhenSurely_X0_at
set_option maxRecDepth 20000 in
theorem ggX0_sumWhenSurely_X0_putOdds : GoodIn wsX0_sumWhenSurely wsX0_putOdds := goodIn_r _ [10, 1, 2, 11, 12, 5, 13, 14, 15, 16, 17, 18, 19, 20, 21, 22, 23, 3, 4, 6, 45, 46, 47, 48, 49, 50, 51, 52] (by decide +kernel) (by decide +kernel)
set_option maxRecDepth 20000 in
theorem gX0_sumWhenSurely_X0_putOdds : GoodIn wsX0_sumWhenSurely (wsV RX0 47 RX0 yX0_putOdds wsX0_putOdds) := goodIn_app (goodIn_of _ (by decide +kernel)) ggX0_sumWhenSurely_X0_putOdds
set_option maxRecDepth 20000 in
theorem ggX0_sumWhenSurely_X0_sumOfBoth : GoodIn wsX0_sumWhenSurely wsX0_sumOfBoth := goodIn_r _ [27, 19, 3, 4, 5, 6, 28, 29, 30, 31, 32, 33, 34, 35, 36, 37, 38, 39, 40, 41, 18, 42, 43, 44, 45, 46, 47, 48, 49, 50, 51, 52] (by decide +kernel) (by decide +kernel)
set_option maxRecDepth 20000 in
theorem gX0_sumWhenSurely_X0_sumOfBoth : GoodIn wsX0_sumWhenSurely (wsV RX0 100 RX0 yX0_sumOfBoth wsX0_sumOfBoth) := goodIn_app (goodIn_of _ (by decide +kernel)) ggX0_sumWhenSurely_X0_sumOfBoth
theorem dX0_sumWhenSurely_0 : decode cX0_sumWhenSurely 0 = .ok (.aload_n 0, 1) := by decide +kernel
theorem dX0_sumWhenSurely_1 : decode cX0_sumWhenSurely 1 = .ok (.getfield 9, 3) := by decide +kernel
theorem dX0_sumWhenSurely_4 : decode cX0_sumWhenSurely 4 = .ok (.iload_n 2, 1) := by decide +kernel
theorem dX0_sumWhenSurely_5 : decode cX0_sumWhenSurely 5 = .ok (.invokestatic 146, 3) := by decide +kernel
theorem dX0_sumWhenSurely_8 : decode cX0_sumWhenSurely 8 = .ok (.lstore 4, 2) := by decide +kernel
theorem dX0_sumWhenSurely_10 : decode cX0_sumWhenSurely 10 = .ok (.aload_n 0, 1) := by decide +kernel
theorem dX0_sumWhenSurely_11 : decode cX0_sumWhenSurely 11 = .ok (.getfield 13, 3) := by decide +kernel
theorem dX0_sumWhenSurely_14 : decode cX0_sumWhenSurely 14 = .ok (.iload_n 2, 1) := by decide +kernel
theorem dX0_sumWhenSurely_15 : decode cX0_sumWhenSurely 15 = .ok (.invokestatic 146, 3) := by decide +kernel
theorem dX0_sumWhenSurely_18 : decode cX0_sumWhenSurely 18 = .ok (.lstore 6, 2) := by decide +kernel
theorem dX0_sumWhenSurely_20 : decode cX0_sumWhenSurely 20 = .ok (.aload_n 0, 1) := by decide +kernel
theorem dX0_sumWhenSurely_21 : decode cX0_sumWhenSurely 21 = .ok (.iload_n 2, 1) := by decide +kernel
theorem dX0_sumWhenSurely_22 : decode cX0_sumWhenSurely 22 = .ok (.iload_n 3, 1) := by decide +kernel
theorem dX0_sumWhenSurely_23 : decode cX0_sumWhenSurely 23 = .ok (.i2l, 1) := by decide +kernel
theorem dX0_sumWhenSurely_24 : decode cX0_sumWhenSurely 24 = .ok (.lconst 1, 1) := by decide +kernel
theorem dX0_sumWhenSurely_25 : decode cX0_sumWhenSurely 25 = .ok (.invokevirtual 47, 3) := by decide +kernel
theorem dX0_sumWhenSurely_28 : decode cX0_sumWhenSurely 28 = .ok (.aload_n 0, 1) := by decide +kernel
theorem dX0_sumWhenSurely_29 : decode cX0_sumWhenSurely 29 = .ok (.iload_n 1, 1) := by decide +kernel
theorem dX0_sumWhenSurely_30 : decode cX0_sumWhenSurely 30 = .ok (.iload_n 1, 1) := by decide +kernel
theorem dX0_sumWhenSurely_31 : decode cX0_sumWhenSurely 31 = .ok (.invokevirtual 100, 3) := by decide +kernel
theorem dX0_sumWhenSurely_34 : decode cX0_sumWhenSurely 34 = .ok (.lstore 8, 2) := by decide +kernel
theorem dX0_sumWhenSurely_36 : decode cX0_sumWhenSurely 36 = .ok (.aload_n 0, 1) := by decide +kernel
theorem dX0_sumWhenSurely_37 : decode cX0_sumWhenSurely 37 = .ok (.iload_n 2, 1) := by decide +kernel
theorem dX0_sumWhenSurely_38 : decode cX0_sumWhenSurely 38 = .ok (.lload 4, 2) := by decide +kernel
theorem dX0_sumWhenSurely_40 : decode cX0_sumWhenSurely 40 = .ok (.lload 6, 2) := by decide +kernel
theorem dX0_sumWhenSurely_42 : decode cX0_sumWhenSurely 42 = .ok (.invokevirtual 47, 3) := by decide +kernel
theorem dX0_sumWhenSurely_45 : decode cX0_sumWhenSurely 45 = .ok (.lload 8, 2) := by decide +kernel
theorem dX0_sumWhenSurely_47 : decode cX0_sumWhenSurely 47 = .ok (.lreturn, 1) := by decide +kernel
set_option maxRecDepth 20000 in
theorem ggX0_allBut_X0_at : GoodIn wsX0_allBut wsX0_at := goodIn_r _ [6] (by decide +kernel) (by decide +kernel)
set_option maxRecDepth 20000 in
theorem gX0_allBut_X0_at : GoodIn wsX0_allBut (va_wsS RX0 146 yX0_at wsX0_at) := goodIn_app (goodIn_of _ (by decide +kernel)) ggX0_allBut_X0_at
theorem dX0_allBut_0 : decode cX0_allBut 0 = .ok (.lconst 1, 1) := by decide +kernel
theorem dX0_allBut_1 : decode cX0_allBut 1 = .ok (.lstore_n 2, 1) := by decide +kernel
theorem dX0_allBut_2 : decode cX0_allBut 2 = .ok (.iconst 0, 1) := by decide +kernel
theorem dX0_allBut_3 : decode cX0_allBut 3 = .ok (.istore 4, 2) := by decide +kernel
theorem dX0_allBut_5 : decode cX0_allBut 5 = .ok (.iload 4, 2) := by decide +kernel
theorem dX0_allBut_7 : decode cX0_allBut 7 = .ok (.aload_n 0, 1) := by decide +kernel
theorem dX0_allBut_8 : decode cX0_allBut 8 = .ok (.getfield 25, 3) := by decide +kernel
theorem dX0_allBut_11 : decode cX0_allBut 11 = .ok (.if_icmp .ge 27, 3) := by decide +kernel
theorem dX0_allBut_14 : decode cX0_allBut 14 = .ok (.iload 4, 2) := by decide +kernel
theorem dX0_allBut_16 : decode cX0_allBut 16 = .ok (.iload_n 1, 1) := by decide +kernel
theorem dX0_allBut_17 : decode cX0_allBut 17 = .ok (.if_icmp .eq 15, 3) := by decide +kernel
theorem dX0_allBut_20 : decode cX0_allBut 20 = .ok (.lload_n 2, 1) := by decide +kernel
theorem dX0_allBut_21 : decode cX0_allBut 21 = .ok (.aload_n 0, 1) := by decide +kernel
theorem dX0_allBut_22 : decode cX0_allBut 22 = .ok (.getfield 13, 3) := by decide +kernel
theorem dX0_allBut_25 : decode cX0_allBut 25 = .ok (.iload 4, 2) := by decide +kernel
theorem dX0_allBut_27 : decode cX0_allBut 27 = .ok (.invokestatic 146, 3) := by decide +kernel
theorem dX0_allBut_30 : decode cX0_allBut 30 = .ok (.lmul, 1) := by decide +kernel
theorem dX0_allBut_31 : decode cX0_allBut 31 = .ok (.lstore_n 2, 1) := by decide +kernel
theorem dX0_allBut_32 : decode cX0_allBut 32 = .ok (.iinc 4 1, 3) := by decide +kernel
theorem dX0_allBut_35 : decode cX0_allBut 35 = .ok (.goto (-30), 3) := by decide +kernel
theorem dX0_allBut_38 : decode cX0_allBut 38 = .ok (.lload_n 2, 1) := by decide +kernel
theorem dX0_allBut_39 : decode cX0_allBut 39 = .ok (.lreturn, 1) := by decide +kernel
set_option maxRecDepth 20000 in
theorem ggX0_likeliestWorld_X0_isTrue : GoodIn wsX0_likeliestWorld wsX0_isTrue := goodIn_r _ [7, 8, 9, 10, 6, 11, 12, 13, 14, 15, 16, 17, 18, 19, 20, 21, 22, 23, 30, 31, 32, 33, 34, 35, 36, 37] (by decide +kernel) (by decide +kernel)
set_option maxRecDepth 20000 in
theorem gX0_likeliestWorld_X0_isTrue : GoodIn wsX0_likeliestWorld (wsV RX0 92 RX0 yX0_isTrue wsX0_isTrue) := goodIn_app (goodIn_of _ (by decide +kernel)) ggX0_likeliestWorld_X0_isTrue
set_option maxRecDepth 20000 in
theorem ggX0_likeliestWorld_X0_weightOf : GoodIn wsX0_likeliestWorld wsX0_weightOf := goodIn_r _ [27, 28, 29, 18, 19, 6, 20, 30, 31, 32, 33, 34, 35, 36, 37] (by decide +kernel) (by decide +kernel)
set_option maxRecDepth 20000 in
theorem gX0_likeliestWorld_X0_weightOf : GoodIn wsX0_likeliestWorld (wsV RX0 132 RX0 yX0_weightOf wsX0_weightOf) := goodIn_app (goodIn_of _ (by decide +kernel)) ggX0_likeliestWorld_X0_weightOf
theorem dX0_likeliestWorld_0 : decode cX0_likeliestWorld 0 = .ok (.bipush (-2), 2) := by decide +kernel
theorem dX0_likeliestWorld_2 : decode cX0_likeliestWorld 2 = .ok (.istore_n 2, 1) := by decide +kernel
theorem dX0_likeliestWorld_3 : decode cX0_likeliestWorld 3 = .ok (.ldc2_w 98, 3) := by decide +kernel
theorem dX0_likeliestWorld_6 : decode cX0_likeliestWorld 6 = .ok (.lstore_n 3, 1) := by decide +kernel
theorem dX0_likeliestWorld_7 : decode cX0_likeliestWorld 7 = .ok (.iconst 1, 1) := by decide +kernel
theorem dX0_likeliestWorld_8 : decode cX0_likeliestWorld 8 = .ok (.aload_n 0, 1) := by decide +kernel
theorem dX0_likeliestWorld_9 : decode cX0_likeliestWorld 9 = .ok (.getfield 25, 3) := by decide +kernel
theorem dX0_likeliestWorld_12 : decode cX0_likeliestWorld 12 = .ok (.ishl, 1) := by decide +kernel
theorem dX0_likeliestWorld_13 : decode cX0_likeliestWorld 13 = .ok (.istore 5, 2) := by decide +kernel
theorem dX0_likeliestWorld_15 : decode cX0_likeliestWorld 15 = .ok (.iconst 0, 1) := by decide +kernel
theorem dX0_likeliestWorld_16 : decode cX0_likeliestWorld 16 = .ok (.istore 6, 2) := by decide +kernel
theorem dX0_likeliestWorld_18 : decode cX0_likeliestWorld 18 = .ok (.iload 6, 2) := by decide +kernel
theorem dX0_likeliestWorld_20 : decode cX0_likeliestWorld 20 = .ok (.iload 5, 2) := by decide +kernel
theorem dX0_likeliestWorld_22 : decode cX0_likeliestWorld 22 = .ok (.if_icmp .ge 40, 3) := by decide +kernel
theorem dX0_likeliestWorld_25 : decode cX0_likeliestWorld 25 = .ok (.aload_n 0, 1) := by decide +kernel
theorem dX0_likeliestWorld_26 : decode cX0_likeliestWorld 26 = .ok (.iload_n 1, 1) := by decide +kernel
theorem dX0_likeliestWorld_27 : decode cX0_likeliestWorld 27 = .ok (.iload 6, 2) := by decide +kernel
theorem dX0_likeliestWorld_29 : decode cX0_likeliestWorld 29 = .ok (.invokevirtual 92, 3) := by decide +kernel
theorem dX0_likeliestWorld_32 : decode cX0_likeliestWorld 32 = .ok (.ifCond .eq 24, 3) := by decide +kernel
theorem dX0_likeliestWorld_35 : decode cX0_likeliestWorld 35 = .ok (.aload_n 0, 1) := by decide +kernel
theorem dX0_likeliestWorld_36 : decode cX0_likeliestWorld 36 = .ok (.iload 6, 2) := by decide +kernel
theorem dX0_likeliestWorld_38 : decode cX0_likeliestWorld 38 = .ok (.invokevirtual 132, 3) := by decide +kernel
theorem dX0_likeliestWorld_41 : decode cX0_likeliestWorld 41 = .ok (.lload_n 3, 1) := by decide +kernel
theorem dX0_likeliestWorld_42 : decode cX0_likeliestWorld 42 = .ok (.lcmp, 1) := by decide +kernel
theorem dX0_likeliestWorld_43 : decode cX0_likeliestWorld 43 = .ok (.ifCond .le 13, 3) := by decide +kernel
theorem dX0_likeliestWorld_46 : decode cX0_likeliestWorld 46 = .ok (.iload 6, 2) := by decide +kernel
theorem dX0_likeliestWorld_48 : decode cX0_likeliestWorld 48 = .ok (.istore_n 2, 1) := by decide +kernel
theorem dX0_likeliestWorld_49 : decode cX0_likeliestWorld 49 = .ok (.aload_n 0, 1) := by decide +kernel
theorem dX0_likeliestWorld_50 : decode cX0_likeliestWorld 50 = .ok (.iload 6, 2) := by decide +kernel
theorem dX0_likeliestWorld_52 : decode cX0_likeliestWorld 52 = .ok (.invokevirtual 132, 3) := by decide +kernel
theorem dX0_likeliestWorld_55 : decode cX0_likeliestWorld 55 = .ok (.lstore_n 3, 1) := by decide +kernel
theorem dX0_likeliestWorld_56 : decode cX0_likeliestWorld 56 = .ok (.iinc 6 1, 3) := by decide +kernel
theorem dX0_likeliestWorld_59 : decode cX0_likeliestWorld 59 = .ok (.goto (-41), 3) := by decide +kernel
theorem dX0_likeliestWorld_62 : decode cX0_likeliestWorld 62 = .ok (.iload_n 2, 1) := by decide +kernel
theorem dX0_likeliestWorld_63 : decode cX0_likeliestWorld 63 = .ok (.ireturn, 1) := by decide +kernel
set_option maxRecDepth 20000 in
theorem ggX0_lowestPart_X0_greatestDivisor : GoodIn wsX0_lowestPart wsX0_greatestDivisor := goodIn_r _ [4] (by decide +kernel) (by decide +kernel)
set_option maxRecDepth 20000 in
theorem gX0_lowestPart_X0_greatestDivisor : GoodIn wsX0_lowestPart (va_wsS RX0 173 yX0_greatestDivisor wsX0_greatestDivisor) := goodIn_app (goodIn_of _ (by decide +kernel)) ggX0_lowestPart_X0_greatestDivisor
theorem dX0_lowestPart_0 : decode cX0_lowestPart 0 = .ok (.lload_n 0, 1) := by decide +kernel
theorem dX0_lowestPart_1 : decode cX0_lowestPart 1 = .ok (.lload_n 2, 1) := by decide +kernel
theorem dX0_lowestPart_2 : decode cX0_lowestPart 2 = .ok (.invokestatic 173, 3) := by decide +kernel
theorem dX0_lowestPart_5 : decode cX0_lowestPart 5 = .ok (.lstore 5, 2) := by decide +kernel
theorem dX0_lowestPart_7 : decode cX0_lowestPart 7 = .ok (.lload 5, 2) := by decide +kernel
theorem dX0_lowestPart_9 : decode cX0_lowestPart 9 = .ok (.lconst 0, 1) := by decide +kernel
theorem dX0_lowestPart_10 : decode cX0_lowestPart 10 = .ok (.lcmp, 1) := by decide +kernel
theorem dX0_lowestPart_11 : decode cX0_lowestPart 11 = .ok (.ifCond .ne 5, 3) := by decide +kernel
theorem dX0_lowestPart_14 : decode cX0_lowestPart 14 = .ok (.lconst 0, 1) := by decide +kernel
theorem dX0_lowestPart_15 : decode cX0_lowestPart 15 = .ok (.lreturn, 1) := by decide +kernel
theorem dX0_lowestPart_16 : decode cX0_lowestPart 16 = .ok (.iload 4, 2) := by decide +kernel
theorem dX0_lowestPart_18 : decode cX0_lowestPart 18 = .ok (.ifCond .ne 7, 3) := by decide +kernel
theorem dX0_lowestPart_21 : decode cX0_lowestPart 21 = .ok (.lload_n 0, 1) := by decide +kernel
theorem dX0_lowestPart_22 : decode cX0_lowestPart 22 = .ok (.goto 4, 3) := by decide +kernel
theorem dX0_lowestPart_25 : decode cX0_lowestPart 25 = .ok (.lload_n 2, 1) := by decide +kernel
theorem dX0_lowestPart_26 : decode cX0_lowestPart 26 = .ok (.lload 5, 2) := by decide +kernel
theorem dX0_lowestPart_28 : decode cX0_lowestPart 28 = .ok (.ldiv, 1) := by decide +kernel
theorem dX0_lowestPart_29 : decode cX0_lowestPart 29 = .ok (.lreturn, 1) := by decide +kernel
theorem dX0_greatestDivisor_0 : decode cX0_greatestDivisor 0 = .ok (.lload_n 0, 1) := by decide +kernel
theorem dX0_greatestDivisor_1 : decode cX0_greatestDivisor 1 = .ok (.lconst 0, 1) := by decide +kernel
theorem dX0_greatestDivisor_2 : decode cX0_greatestDivisor 2 = .ok (.lcmp, 1) := by decide +kernel
theorem dX0_greatestDivisor_3 : decode cX0_greatestDivisor 3 = .ok (.ifCond .ge 8, 3) := by decide +kernel
theorem dX0_greatestDivisor_6 : decode cX0_greatestDivisor 6 = .ok (.lload_n 0, 1) := by decide +kernel
theorem dX0_greatestDivisor_7 : decode cX0_greatestDivisor 7 = .ok (.lneg, 1) := by decide +kernel
theorem dX0_greatestDivisor_8 : decode cX0_greatestDivisor 8 = .ok (.goto 4, 3) := by decide +kernel
theorem dX0_greatestDivisor_11 : decode cX0_greatestDivisor 11 = .ok (.lload_n 0, 1) := by decide +kernel
theorem dX0_greatestDivisor_12 : decode cX0_greatestDivisor 12 = .ok (.lstore 4, 2) := by decide +kernel
theorem dX0_greatestDivisor_14 : decode cX0_greatestDivisor 14 = .ok (.lload_n 2, 1) := by decide +kernel
theorem dX0_greatestDivisor_15 : decode cX0_greatestDivisor 15 = .ok (.lconst 0, 1) := by decide +kernel
theorem dX0_greatestDivisor_16 : decode cX0_greatestDivisor 16 = .ok (.lcmp, 1) := by decide +kernel
theorem dX0_greatestDivisor_17 : decode cX0_greatestDivisor 17 = .ok (.ifCond .ge 8, 3) := by decide +kernel
theorem dX0_greatestDivisor_20 : decode cX0_greatestDivisor 20 = .ok (.lload_n 2, 1) := by decide +kernel
theorem dX0_greatestDivisor_21 : decode cX0_greatestDivisor 21 = .ok (.lneg, 1) := by decide +kernel
theorem dX0_greatestDivisor_22 : decode cX0_greatestDivisor 22 = .ok (.goto 4, 3) := by decide +kernel
theorem dX0_greatestDivisor_25 : decode cX0_greatestDivisor 25 = .ok (.lload_n 2, 1) := by decide +kernel
theorem dX0_greatestDivisor_26 : decode cX0_greatestDivisor 26 = .ok (.lstore 6, 2) := by decide +kernel
theorem dX0_greatestDivisor_28 : decode cX0_greatestDivisor 28 = .ok (.iconst 0, 1) := by decide +kernel
theorem dX0_greatestDivisor_29 : decode cX0_greatestDivisor 29 = .ok (.istore 8, 2) := by decide +kernel
theorem dX0_greatestDivisor_31 : decode cX0_greatestDivisor 31 = .ok (.iload 8, 2) := by decide +kernel
theorem dX0_greatestDivisor_33 : decode cX0_greatestDivisor 33 = .ok (.bipush 100, 2) := by decide +kernel
theorem dX0_greatestDivisor_35 : decode cX0_greatestDivisor 35 = .ok (.if_icmp .ge 31, 3) := by decide +kernel
theorem dX0_greatestDivisor_38 : decode cX0_greatestDivisor 38 = .ok (.lload 6, 2) := by decide +kernel
theorem dX0_greatestDivisor_40 : decode cX0_greatestDivisor 40 = .ok (.lconst 0, 1) := by decide +kernel
theorem dX0_greatestDivisor_41 : decode cX0_greatestDivisor 41 = .ok (.lcmp, 1) := by decide +kernel
theorem dX0_greatestDivisor_42 : decode cX0_greatestDivisor 42 = .ok (.ifCond .eq 24, 3) := by decide +kernel
theorem dX0_greatestDivisor_45 : decode cX0_greatestDivisor 45 = .ok (.lload 4, 2) := by decide +kernel
theorem dX0_greatestDivisor_47 : decode cX0_greatestDivisor 47 = .ok (.lload 6, 2) := by decide +kernel
theorem dX0_greatestDivisor_49 : decode cX0_greatestDivisor 49 = .ok (.lrem, 1) := by decide +kernel
theorem dX0_greatestDivisor_50 : decode cX0_greatestDivisor 50 = .ok (.lstore 9, 2) := by decide +kernel
theorem dX0_greatestDivisor_52 : decode cX0_greatestDivisor 52 = .ok (.lload 6, 2) := by decide +kernel
theorem dX0_greatestDivisor_54 : decode cX0_greatestDivisor 54 = .ok (.lstore 4, 2) := by decide +kernel
theorem dX0_greatestDivisor_56 : decode cX0_greatestDivisor 56 = .ok (.lload 9, 2) := by decide +kernel
theorem dX0_greatestDivisor_58 : decode cX0_greatestDivisor 58 = .ok (.lstore 6, 2) := by decide +kernel
theorem dX0_greatestDivisor_60 : decode cX0_greatestDivisor 60 = .ok (.iinc 8 1, 3) := by decide +kernel
theorem dX0_greatestDivisor_63 : decode cX0_greatestDivisor 63 = .ok (.goto (-32), 3) := by decide +kernel
theorem dX0_greatestDivisor_66 : decode cX0_greatestDivisor 66 = .ok (.lload 4, 2) := by decide +kernel
theorem dX0_greatestDivisor_68 : decode cX0_greatestDivisor 68 = .ok (.lreturn, 1) := by decide +kernel
set_option maxRecDepth 20000 in
theorem ggX0_drawWorld_X0_draw : GoodIn wsX0_drawWorld wsX0_draw := goodIn_r _ [8, 9, 10, 11, 12, 16, 17, 18, 19, 20, 21, 22, 23] (by decide +kernel) (by decide +kernel)
set_option maxRecDepth 20000 in
theorem gX0_drawWorld_X0_draw : GoodIn wsX0_drawWorld (wsV RX0 177 RX0 yX0_draw wsX0_draw) := goodIn_app (goodIn_of _ (by decide +kernel)) ggX0_drawWorld_X0_draw
set_option maxRecDepth 20000 in
theorem ggX0_drawWorld_X0_at : GoodIn wsX0_drawWorld wsX0_at := goodIn_r _ [15] (by decide +kernel) (by decide +kernel)
set_option maxRecDepth 20000 in
theorem gX0_drawWorld_X0_at : GoodIn wsX0_drawWorld (va_wsS RX0 146 yX0_at wsX0_at) := goodIn_app (goodIn_of _ (by decide +kernel)) ggX0_drawWorld_X0_at
theorem dX0_drawWorld_0 : decode cX0_drawWorld 0 = .ok (.iconst 0, 1) := by decide +kernel
theorem dX0_drawWorld_1 : decode cX0_drawWorld 1 = .ok (.istore_n 1, 1) := by decide +kernel
theorem dX0_drawWorld_2 : decode cX0_drawWorld 2 = .ok (.iconst 0, 1) := by decide +kernel
theorem dX0_drawWorld_3 : decode cX0_drawWorld 3 = .ok (.istore_n 2, 1) := by decide +kernel
theorem dX0_drawWorld_4 : decode cX0_drawWorld 4 = .ok (.iload_n 2, 1) := by decide +kernel
theorem dX0_drawWorld_5 : decode cX0_drawWorld 5 = .ok (.aload_n 0, 1) := by decide +kernel
theorem dX0_drawWorld_6 : decode cX0_drawWorld 6 = .ok (.getfield 25, 3) := by decide +kernel
theorem dX0_drawWorld_9 : decode cX0_drawWorld 9 = .ok (.if_icmp .ge 53, 3) := by decide +kernel
theorem dX0_drawWorld_12 : decode cX0_drawWorld 12 = .ok (.aload_n 0, 1) := by decide +kernel
theorem dX0_drawWorld_13 : decode cX0_drawWorld 13 = .ok (.invokevirtual 177, 3) := by decide +kernel
theorem dX0_drawWorld_16 : decode cX0_drawWorld 16 = .ok (.lstore_n 3, 1) := by decide +kernel
theorem dX0_drawWorld_17 : decode cX0_drawWorld 17 = .ok (.aload_n 0, 1) := by decide +kernel
theorem dX0_drawWorld_18 : decode cX0_drawWorld 18 = .ok (.getfield 13, 3) := by decide +kernel
theorem dX0_drawWorld_21 : decode cX0_drawWorld 21 = .ok (.iload_n 2, 1) := by decide +kernel
theorem dX0_drawWorld_22 : decode cX0_drawWorld 22 = .ok (.invokestatic 146, 3) := by decide +kernel
theorem dX0_drawWorld_25 : decode cX0_drawWorld 25 = .ok (.lstore 5, 2) := by decide +kernel
theorem dX0_drawWorld_27 : decode cX0_drawWorld 27 = .ok (.lload 5, 2) := by decide +kernel
theorem dX0_drawWorld_29 : decode cX0_drawWorld 29 = .ok (.lconst 0, 1) := by decide +kernel
theorem dX0_drawWorld_30 : decode cX0_drawWorld 30 = .ok (.lcmp, 1) := by decide +kernel
theorem dX0_drawWorld_31 : decode cX0_drawWorld 31 = .ok (.ifCond .le 25, 3) := by decide +kernel
theorem dX0_drawWorld_34 : decode cX0_drawWorld 34 = .ok (.lload_n 3, 1) := by decide +kernel
theorem dX0_drawWorld_35 : decode cX0_drawWorld 35 = .ok (.lload 5, 2) := by decide +kernel
theorem dX0_drawWorld_37 : decode cX0_drawWorld 37 = .ok (.lrem, 1) := by decide +kernel
theorem dX0_drawWorld_38 : decode cX0_drawWorld 38 = .ok (.aload_n 0, 1) := by decide +kernel
theorem dX0_drawWorld_39 : decode cX0_drawWorld 39 = .ok (.getfield 9, 3) := by decide +kernel
theorem dX0_drawWorld_42 : decode cX0_drawWorld 42 = .ok (.iload_n 2, 1) := by decide +kernel
theorem dX0_drawWorld_43 : decode cX0_drawWorld 43 = .ok (.invokestatic 146, 3) := by decide +kernel
theorem dX0_drawWorld_46 : decode cX0_drawWorld 46 = .ok (.lcmp, 1) := by decide +kernel
theorem dX0_drawWorld_47 : decode cX0_drawWorld 47 = .ok (.ifCond .ge 9, 3) := by decide +kernel
theorem dX0_drawWorld_50 : decode cX0_drawWorld 50 = .ok (.iload_n 1, 1) := by decide +kernel
theorem dX0_drawWorld_51 : decode cX0_drawWorld 51 = .ok (.iconst 1, 1) := by decide +kernel
theorem dX0_drawWorld_52 : decode cX0_drawWorld 52 = .ok (.iload_n 2, 1) := by decide +kernel
theorem dX0_drawWorld_53 : decode cX0_drawWorld 53 = .ok (.ishl, 1) := by decide +kernel
theorem dX0_drawWorld_54 : decode cX0_drawWorld 54 = .ok (.ior, 1) := by decide +kernel
theorem dX0_drawWorld_55 : decode cX0_drawWorld 55 = .ok (.istore_n 1, 1) := by decide +kernel
theorem dX0_drawWorld_56 : decode cX0_drawWorld 56 = .ok (.iinc 2 1, 3) := by decide +kernel
theorem dX0_drawWorld_59 : decode cX0_drawWorld 59 = .ok (.goto (-55), 3) := by decide +kernel
theorem dX0_drawWorld_62 : decode cX0_drawWorld 62 = .ok (.iload_n 1, 1) := by decide +kernel
theorem dX0_drawWorld_63 : decode cX0_drawWorld 63 = .ok (.ireturn, 1) := by decide +kernel
theorem dX0_draw_0 : decode cX0_draw 0 = .ok (.aload_n 0, 1) := by decide +kernel
theorem dX0_draw_1 : decode cX0_draw 1 = .ok (.aload_n 0, 1) := by decide +kernel
theorem dX0_draw_2 : decode cX0_draw 2 = .ok (.getfield 32, 3) := by decide +kernel
theorem dX0_draw_5 : decode cX0_draw 5 = .ok (.ldc2_w 181, 3) := by decide +kernel
theorem dX0_draw_8 : decode cX0_draw 8 = .ok (.lmul, 1) := by decide +kernel
theorem dX0_draw_9 : decode cX0_draw 9 = .ok (.ldc2_w 183, 3) := by decide +kernel
theorem dX0_draw_12 : decode cX0_draw 12 = .ok (.ladd, 1) := by decide +kernel
theorem dX0_draw_13 : decode cX0_draw 13 = .ok (.ldc2_w 141, 3) := by decide +kernel
theorem dX0_draw_16 : decode cX0_draw 16 = .ok (.land, 1) := by decide +kernel
theorem dX0_draw_17 : decode cX0_draw 17 = .ok (.putfield 32, 3) := by decide +kernel
theorem dX0_draw_20 : decode cX0_draw 20 = .ok (.aload_n 0, 1) := by decide +kernel
theorem dX0_draw_21 : decode cX0_draw 21 = .ok (.getfield 32, 3) := by decide +kernel
theorem dX0_draw_24 : decode cX0_draw 24 = .ok (.bipush 17, 2) := by decide +kernel
theorem dX0_draw_26 : decode cX0_draw 26 = .ok (.lushr, 1) := by decide +kernel
theorem dX0_draw_27 : decode cX0_draw 27 = .ok (.lreturn, 1) := by decide +kernel
theorem dX1_init_0 : decode cX1_init 0 = .ok (.aload_n 0, 1) := by decide +kernel
theorem dX1_init_1 : decode cX1_init 1 = .ok (.invokespecial 1, 3) := by decide +kernel
theorem dX1_init_4 : decode cX1_init 4 = .ok (.aload_n 0, 1) := by decide +kernel
theorem dX1_init_5 : decode cX1_init 5 = .ok (.bipush 12, 2) := by decide +kernel
theorem dX1_init_7 : decode cX1_init 7 = .ok (.newarray .int, 2) := by decide +kernel
theorem dX1_init_9 : decode cX1_init 9 = .ok (.putfield 7, 3) := by decide +kernel
theorem dX1_init_12 : decode cX1_init 12 = .ok (.aload_n 0, 1) := by decide +kernel
theorem dX1_init_13 : decode cX1_init 13 = .ok (.bipush 12, 2) := by decide +kernel
theorem dX1_init_15 : decode cX1_init 15 = .ok (.newarray .int, 2) := by decide +kernel
theorem dX1_init_17 : decode cX1_init 17 = .ok (.putfield 13, 3) := by decide +kernel
theorem dX1_init_20 : decode cX1_init 20 = .ok (.aload_n 0, 1) := by decide +kernel
theorem dX1_init_21 : decode cX1_init 21 = .ok (.ldc 16, 2) := by decide +kernel
theorem dX1_init_23 : decode cX1_init 23 = .ok (.newarray .boolean, 2) := by decide +kernel
theorem dX1_init_25 : decode cX1_init 25 = .ok (.putfield 17, 3) := by decide +kernel
theorem dX1_init_28 : decode cX1_init 28 = .ok (.return_, 1) := by decide +kernel
theorem dX1_thrown_0 : decode cX1_thrown 0 = .ok (.aload_n 0, 1) := by decide +kernel
theorem dX1_thrown_1 : decode cX1_thrown 1 = .ok (.getfield 21, 3) := by decide +kernel
theorem dX1_thrown_4 : decode cX1_thrown 4 = .ok (.ireturn, 1) := by decide +kernel
theorem dX1_areOdds_0 : decode cX1_areOdds 0 = .ok (.iload_n 1, 1) := by decide +kernel
theorem dX1_areOdds_1 : decode cX1_areOdds 1 = .ok (.iconst 1, 1) := by decide +kernel
theorem dX1_areOdds_2 : decode cX1_areOdds 2 = .ok (.if_icmp .lt 22, 3) := by decide +kernel
theorem dX1_areOdds_5 : decode cX1_areOdds 5 = .ok (.iload_n 1, 1) := by decide +kernel
theorem dX1_areOdds_6 : decode cX1_areOdds 6 = .ok (.bipush 8, 2) := by decide +kernel
theorem dX1_areOdds_8 : decode cX1_areOdds 8 = .ok (.if_icmp .gt 16, 3) := by decide +kernel
theorem dX1_areOdds_11 : decode cX1_areOdds 11 = .ok (.iload_n 0, 1) := by decide +kernel
theorem dX1_areOdds_12 : decode cX1_areOdds 12 = .ok (.ifCond .lt 12, 3) := by decide +kernel
theorem dX1_areOdds_15 : decode cX1_areOdds 15 = .ok (.iload_n 0, 1) := by decide +kernel
theorem dX1_areOdds_16 : decode cX1_areOdds 16 = .ok (.iload_n 1, 1) := by decide +kernel
theorem dX1_areOdds_17 : decode cX1_areOdds 17 = .ok (.if_icmp .gt 7, 3) := by decide +kernel
theorem dX1_areOdds_20 : decode cX1_areOdds 20 = .ok (.iconst 1, 1) := by decide +kernel
theorem dX1_areOdds_21 : decode cX1_areOdds 21 = .ok (.goto 4, 3) := by decide +kernel
theorem dX1_areOdds_24 : decode cX1_areOdds 24 = .ok (.iconst 0, 1) := by decide +kernel
theorem dX1_areOdds_25 : decode cX1_areOdds 25 = .ok (.ireturn, 1) := by decide +kernel
theorem dX1_isQuestion_0 : decode cX1_isQuestion 0 = .ok (.iload_n 1, 1) := by decide +kernel
theorem dX1_isQuestion_1 : decode cX1_isQuestion 1 = .ok (.ifCond .lt 15, 3) := by decide +kernel
theorem dX1_isQuestion_4 : decode cX1_isQuestion 4 = .ok (.iload_n 1, 1) := by decide +kernel
theorem dX1_isQuestion_5 : decode cX1_isQuestion 5 = .ok (.aload_n 0, 1) := by decide +kernel
theorem dX1_isQuestion_6 : decode cX1_isQuestion 6 = .ok (.getfield 25, 3) := by decide +kernel
theorem dX1_isQuestion_9 : decode cX1_isQuestion 9 = .ok (.if_icmp .ge 7, 3) := by decide +kernel
theorem dX1_isQuestion_12 : decode cX1_isQuestion 12 = .ok (.iconst 1, 1) := by decide +kernel
theorem dX1_isQuestion_13 : decode cX1_isQuestion 13 = .ok (.goto 4, 3) := by decide +kernel
theorem dX1_isQuestion_16 : decode cX1_isQuestion 16 = .ok (.iconst 0, 1) := by decide +kernel
theorem dX1_isQuestion_17 : decode cX1_isQuestion 17 = .ok (.ireturn, 1) := by decide +kernel
theorem dX1_areFacts_0 : decode cX1_areFacts 0 = .ok (.iload_n 1, 1) := by decide +kernel
theorem dX1_areFacts_1 : decode cX1_areFacts 1 = .ok (.ifCond .lt 17, 3) := by decide +kernel
theorem dX1_areFacts_4 : decode cX1_areFacts 4 = .ok (.iload_n 1, 1) := by decide +kernel
theorem dX1_areFacts_5 : decode cX1_areFacts 5 = .ok (.iconst 1, 1) := by decide +kernel
theorem dX1_areFacts_6 : decode cX1_areFacts 6 = .ok (.aload_n 0, 1) := by decide +kernel
theorem dX1_areFacts_7 : decode cX1_areFacts 7 = .ok (.getfield 28, 3) := by decide +kernel
theorem dX1_areFacts_10 : decode cX1_areFacts 10 = .ok (.ishl, 1) := by decide +kernel
theorem dX1_areFacts_11 : decode cX1_areFacts 11 = .ok (.if_icmp .ge 7, 3) := by decide +kernel
theorem dX1_areFacts_14 : decode cX1_areFacts 14 = .ok (.iconst 1, 1) := by decide +kernel
theorem dX1_areFacts_15 : decode cX1_areFacts 15 = .ok (.goto 4, 3) := by decide +kernel
theorem dX1_areFacts_18 : decode cX1_areFacts 18 = .ok (.iconst 0, 1) := by decide +kernel
theorem dX1_areFacts_19 : decode cX1_areFacts 19 = .ok (.ireturn, 1) := by decide +kernel
set_option maxRecDepth 20000 in
theorem ggX1_fact_X1_areOdds : GoodIn wsX1_fact wsX1_areOdds := goodIn_r _ [8] (by decide +kernel) (by decide +kernel)
set_option maxRecDepth 20000 in
theorem gX1_fact_X1_areOdds : GoodIn wsX1_fact (va_wsS RX1 31 yX1_areOdds wsX1_areOdds) := goodIn_app (goodIn_of _ (by decide +kernel)) ggX1_fact_X1_areOdds
theorem dX1_fact_0 : decode cX1_fact 0 = .ok (.aload_n 0, 1) := by decide +kernel
theorem dX1_fact_1 : decode cX1_fact 1 = .ok (.iconst 0, 1) := by decide +kernel
theorem dX1_fact_2 : decode cX1_fact 2 = .ok (.putfield 21, 3) := by decide +kernel
theorem dX1_fact_5 : decode cX1_fact 5 = .ok (.iload_n 1, 1) := by decide +kernel
theorem dX1_fact_6 : decode cX1_fact 6 = .ok (.iload_n 2, 1) := by decide +kernel
theorem dX1_fact_7 : decode cX1_fact 7 = .ok (.invokestatic 31, 3) := by decide +kernel
theorem dX1_fact_10 : decode cX1_fact 10 = .ok (.ifCond .ne 5, 3) := by decide +kernel
theorem dX1_fact_13 : decode cX1_fact 13 = .ok (.iconst (-1), 1) := by decide +kernel
theorem dX1_fact_14 : decode cX1_fact 14 = .ok (.ireturn, 1) := by decide +kernel
theorem dX1_fact_15 : decode cX1_fact 15 = .ok (.aload_n 0, 1) := by decide +kernel
theorem dX1_fact_16 : decode cX1_fact 16 = .ok (.getfield 28, 3) := by decide +kernel
theorem dX1_fact_19 : decode cX1_fact 19 = .ok (.bipush 12, 2) := by decide +kernel
theorem dX1_fact_21 : decode cX1_fact 21 = .ok (.if_icmp .ne 6, 3) := by decide +kernel
theorem dX1_fact_24 : decode cX1_fact 24 = .ok (.bipush (-3), 2) := by decide +kernel
theorem dX1_fact_26 : decode cX1_fact 26 = .ok (.ireturn, 1) := by decide +kernel
theorem dX1_fact_27 : decode cX1_fact 27 = .ok (.aload_n 0, 1) := by decide +kernel
theorem dX1_fact_28 : decode cX1_fact 28 = .ok (.getfield 7, 3) := by decide +kernel
theorem dX1_fact_31 : decode cX1_fact 31 = .ok (.aload_n 0, 1) := by decide +kernel
theorem dX1_fact_32 : decode cX1_fact 32 = .ok (.getfield 28, 3) := by decide +kernel
theorem dX1_fact_35 : decode cX1_fact 35 = .ok (.iload_n 1, 1) := by decide +kernel
theorem dX1_fact_36 : decode cX1_fact 36 = .ok (.iastore, 1) := by decide +kernel
theorem dX1_fact_37 : decode cX1_fact 37 = .ok (.aload_n 0, 1) := by decide +kernel
theorem dX1_fact_38 : decode cX1_fact 38 = .ok (.getfield 13, 3) := by decide +kernel
theorem dX1_fact_41 : decode cX1_fact 41 = .ok (.aload_n 0, 1) := by decide +kernel
theorem dX1_fact_42 : decode cX1_fact 42 = .ok (.getfield 28, 3) := by decide +kernel
theorem dX1_fact_45 : decode cX1_fact 45 = .ok (.iload_n 2, 1) := by decide +kernel
theorem dX1_fact_46 : decode cX1_fact 46 = .ok (.iastore, 1) := by decide +kernel
theorem dX1_fact_47 : decode cX1_fact 47 = .ok (.aload_n 0, 1) := by decide +kernel
theorem dX1_fact_48 : decode cX1_fact 48 = .ok (.dup, 1) := by decide +kernel
theorem dX1_fact_49 : decode cX1_fact 49 = .ok (.getfield 28, 3) := by decide +kernel
theorem dX1_fact_52 : decode cX1_fact 52 = .ok (.iconst 1, 1) := by decide +kernel
theorem dX1_fact_53 : decode cX1_fact 53 = .ok (.iadd, 1) := by decide +kernel
theorem dX1_fact_54 : decode cX1_fact 54 = .ok (.putfield 28, 3) := by decide +kernel
theorem dX1_fact_57 : decode cX1_fact 57 = .ok (.aload_n 0, 1) := by decide +kernel
theorem dX1_fact_58 : decode cX1_fact 58 = .ok (.getfield 28, 3) := by decide +kernel
theorem dX1_fact_61 : decode cX1_fact 61 = .ok (.iconst 1, 1) := by decide +kernel
theorem dX1_fact_62 : decode cX1_fact 62 = .ok (.isub, 1) := by decide +kernel
theorem dX1_fact_63 : decode cX1_fact 63 = .ok (.ireturn, 1) := by decide +kernel
set_option maxRecDepth 20000 in
theorem ggX1_odds_X1_areOdds : GoodIn wsX1_odds wsX1_areOdds := goodIn_r _ [8] (by decide +kernel) (by decide +kernel)
set_option maxRecDepth 20000 in
theorem gX1_odds_X1_areOdds : GoodIn wsX1_odds (va_wsS RX1 31 yX1_areOdds wsX1_areOdds) := goodIn_app (goodIn_of _ (by decide +kernel)) ggX1_odds_X1_areOdds
theorem dX1_odds_0 : decode cX1_odds 0 = .ok (.aload_n 0, 1) := by decide +kernel
theorem dX1_odds_1 : decode cX1_odds 1 = .ok (.iconst 0, 1) := by decide +kernel
theorem dX1_odds_2 : decode cX1_odds 2 = .ok (.putfield 21, 3) := by decide +kernel
theorem dX1_odds_5 : decode cX1_odds 5 = .ok (.iload_n 1, 1) := by decide +kernel
theorem dX1_odds_6 : decode cX1_odds 6 = .ok (.ifCond .lt 19, 3) := by decide +kernel
theorem dX1_odds_9 : decode cX1_odds 9 = .ok (.iload_n 1, 1) := by decide +kernel
theorem dX1_odds_10 : decode cX1_odds 10 = .ok (.aload_n 0, 1) := by decide +kernel
theorem dX1_odds_11 : decode cX1_odds 11 = .ok (.getfield 28, 3) := by decide +kernel
theorem dX1_odds_14 : decode cX1_odds 14 = .ok (.if_icmp .ge 11, 3) := by decide +kernel
theorem dX1_odds_17 : decode cX1_odds 17 = .ok (.iload_n 2, 1) := by decide +kernel
theorem dX1_odds_18 : decode cX1_odds 18 = .ok (.iload_n 3, 1) := by decide +kernel
theorem dX1_odds_19 : decode cX1_odds 19 = .ok (.invokestatic 31, 3) := by decide +kernel
theorem dX1_odds_22 : decode cX1_odds 22 = .ok (.ifCond .ne 5, 3) := by decide +kernel
theorem dX1_odds_25 : decode cX1_odds 25 = .ok (.iconst (-1), 1) := by decide +kernel
theorem dX1_odds_26 : decode cX1_odds 26 = .ok (.ireturn, 1) := by decide +kernel
theorem dX1_odds_27 : decode cX1_odds 27 = .ok (.aload_n 0, 1) := by decide +kernel
theorem dX1_odds_28 : decode cX1_odds 28 = .ok (.getfield 7, 3) := by decide +kernel
theorem dX1_odds_31 : decode cX1_odds 31 = .ok (.iload_n 1, 1) := by decide +kernel
theorem dX1_odds_32 : decode cX1_odds 32 = .ok (.iload_n 2, 1) := by decide +kernel
theorem dX1_odds_33 : decode cX1_odds 33 = .ok (.iastore, 1) := by decide +kernel
theorem dX1_odds_34 : decode cX1_odds 34 = .ok (.aload_n 0, 1) := by decide +kernel
theorem dX1_odds_35 : decode cX1_odds 35 = .ok (.getfield 13, 3) := by decide +kernel
theorem dX1_odds_38 : decode cX1_odds 38 = .ok (.iload_n 1, 1) := by decide +kernel
theorem dX1_odds_39 : decode cX1_odds 39 = .ok (.iload_n 3, 1) := by decide +kernel
theorem dX1_odds_40 : decode cX1_odds 40 = .ok (.iastore, 1) := by decide +kernel
theorem dX1_odds_41 : decode cX1_odds 41 = .ok (.iconst 1, 1) := by decide +kernel
theorem dX1_odds_42 : decode cX1_odds 42 = .ok (.ireturn, 1) := by decide +kernel
theorem dX1_isTrue_0 : decode cX1_isTrue 0 = .ok (.aload_n 0, 1) := by decide +kernel
theorem dX1_isTrue_1 : decode cX1_isTrue 1 = .ok (.getfield 17, 3) := by decide +kernel
theorem dX1_isTrue_4 : decode cX1_isTrue 4 = .ok (.sipush 4096, 3) := by decide +kernel
theorem dX1_isTrue_7 : decode cX1_isTrue 7 = .ok (.iload_n 1, 1) := by decide +kernel
theorem dX1_isTrue_8 : decode cX1_isTrue 8 = .ok (.imul, 1) := by decide +kernel
theorem dX1_isTrue_9 : decode cX1_isTrue 9 = .ok (.iload_n 2, 1) := by decide +kernel
theorem dX1_isTrue_10 : decode cX1_isTrue 10 = .ok (.iadd, 1) := by decide +kernel
theorem dX1_isTrue_11 : decode cX1_isTrue 11 = .ok (.baload, 1) := by decide +kernel
theorem dX1_isTrue_12 : decode cX1_isTrue 12 = .ok (.ireturn, 1) := by decide +kernel
set_option maxRecDepth 20000 in
theorem ggX1_set_X1_areFacts : GoodIn wsX1_set wsX1_areFacts := goodIn_r _ [8, 9, 10, 11, 12, 13, 14, 15, 16] (by decide +kernel) (by decide +kernel)
set_option maxRecDepth 20000 in
theorem gX1_set_X1_areFacts : GoodIn wsX1_set (wsV RX1 35 RX1 yX1_areFacts wsX1_areFacts) := goodIn_app (goodIn_of _ (by decide +kernel)) ggX1_set_X1_areFacts
theorem dX1_set_0 : decode cX1_set 0 = .ok (.aload_n 0, 1) := by decide +kernel
theorem dX1_set_1 : decode cX1_set 1 = .ok (.iconst 0, 1) := by decide +kernel
theorem dX1_set_2 : decode cX1_set 2 = .ok (.putfield 21, 3) := by decide +kernel
theorem dX1_set_5 : decode cX1_set 5 = .ok (.aload_n 0, 1) := by decide +kernel
theorem dX1_set_6 : decode cX1_set 6 = .ok (.iload_n 1, 1) := by decide +kernel
theorem dX1_set_7 : decode cX1_set 7 = .ok (.invokevirtual 35, 3) := by decide +kernel
theorem dX1_set_10 : decode cX1_set 10 = .ok (.ifCond .eq 11, 3) := by decide +kernel
theorem dX1_set_13 : decode cX1_set 13 = .ok (.aload_n 0, 1) := by decide +kernel
theorem dX1_set_14 : decode cX1_set 14 = .ok (.iload_n 2, 1) := by decide +kernel
theorem dX1_set_15 : decode cX1_set 15 = .ok (.invokevirtual 35, 3) := by decide +kernel
theorem dX1_set_18 : decode cX1_set 18 = .ok (.ifCond .ne 5, 3) := by decide +kernel
theorem dX1_set_21 : decode cX1_set 21 = .ok (.iconst (-1), 1) := by decide +kernel
theorem dX1_set_22 : decode cX1_set 22 = .ok (.ireturn, 1) := by decide +kernel
theorem dX1_set_23 : decode cX1_set 23 = .ok (.aload_n 0, 1) := by decide +kernel
theorem dX1_set_24 : decode cX1_set 24 = .ok (.getfield 25, 3) := by decide +kernel
theorem dX1_set_27 : decode cX1_set 27 = .ok (.bipush 40, 2) := by decide +kernel
theorem dX1_set_29 : decode cX1_set 29 = .ok (.if_icmp .ne 6, 3) := by decide +kernel
theorem dX1_set_32 : decode cX1_set 32 = .ok (.bipush (-3), 2) := by decide +kernel
theorem dX1_set_34 : decode cX1_set 34 = .ok (.ireturn, 1) := by decide +kernel
theorem dX1_set_35 : decode cX1_set 35 = .ok (.iconst 0, 1) := by decide +kernel
theorem dX1_set_36 : decode cX1_set 36 = .ok (.istore_n 3, 1) := by decide +kernel
theorem dX1_set_37 : decode cX1_set 37 = .ok (.iload_n 3, 1) := by decide +kernel
theorem dX1_set_38 : decode cX1_set 38 = .ok (.sipush 4096, 3) := by decide +kernel
theorem dX1_set_41 : decode cX1_set 41 = .ok (.if_icmp .ge 42, 3) := by decide +kernel
theorem dX1_set_44 : decode cX1_set 44 = .ok (.aload_n 0, 1) := by decide +kernel
theorem dX1_set_45 : decode cX1_set 45 = .ok (.getfield 17, 3) := by decide +kernel
theorem dX1_set_48 : decode cX1_set 48 = .ok (.sipush 4096, 3) := by decide +kernel
theorem dX1_set_51 : decode cX1_set 51 = .ok (.aload_n 0, 1) := by decide +kernel
theorem dX1_set_52 : decode cX1_set 52 = .ok (.getfield 25, 3) := by decide +kernel
theorem dX1_set_55 : decode cX1_set 55 = .ok (.imul, 1) := by decide +kernel
theorem dX1_set_56 : decode cX1_set 56 = .ok (.iload_n 3, 1) := by decide +kernel
theorem dX1_set_57 : decode cX1_set 57 = .ok (.iadd, 1) := by decide +kernel
theorem dX1_set_58 : decode cX1_set 58 = .ok (.iload_n 3, 1) := by decide +kernel
theorem dX1_set_59 : decode cX1_set 59 = .ok (.iload_n 1, 1) := by decide +kernel
theorem dX1_set_60 : decode cX1_set 60 = .ok (.iand, 1) := by decide +kernel
theorem dX1_set_61 : decode cX1_set 61 = .ok (.iload_n 1, 1) := by decide +kernel
theorem dX1_set_62 : decode cX1_set 62 = .ok (.if_icmp .ne 13, 3) := by decide +kernel
theorem dX1_set_65 : decode cX1_set 65 = .ok (.iload_n 3, 1) := by decide +kernel
theorem dX1_set_66 : decode cX1_set 66 = .ok (.iload_n 2, 1) := by decide +kernel
theorem dX1_set_67 : decode cX1_set 67 = .ok (.iand, 1) := by decide +kernel
theorem dX1_set_68 : decode cX1_set 68 = .ok (.ifCond .ne 7, 3) := by decide +kernel
theorem dX1_set_71 : decode cX1_set 71 = .ok (.iconst 1, 1) := by decide +kernel
theorem dX1_set_72 : decode cX1_set 72 = .ok (.goto 4, 3) := by decide +kernel
theorem dX1_set_75 : decode cX1_set 75 = .ok (.iconst 0, 1) := by decide +kernel
theorem dX1_set_76 : decode cX1_set 76 = .ok (.bastore, 1) := by decide +kernel
theorem dX1_set_77 : decode cX1_set 77 = .ok (.iinc 3 1, 3) := by decide +kernel
theorem dX1_set_80 : decode cX1_set 80 = .ok (.goto (-43), 3) := by decide +kernel
theorem dX1_set_83 : decode cX1_set 83 = .ok (.aload_n 0, 1) := by decide +kernel
theorem dX1_set_84 : decode cX1_set 84 = .ok (.dup, 1) := by decide +kernel
theorem dX1_set_85 : decode cX1_set 85 = .ok (.getfield 25, 3) := by decide +kernel
theorem dX1_set_88 : decode cX1_set 88 = .ok (.iconst 1, 1) := by decide +kernel
theorem dX1_set_89 : decode cX1_set 89 = .ok (.iadd, 1) := by decide +kernel
theorem dX1_set_90 : decode cX1_set 90 = .ok (.putfield 25, 3) := by decide +kernel
theorem dX1_set_93 : decode cX1_set 93 = .ok (.aload_n 0, 1) := by decide +kernel
theorem dX1_set_94 : decode cX1_set 94 = .ok (.getfield 25, 3) := by decide +kernel
theorem dX1_set_97 : decode cX1_set 97 = .ok (.iconst 1, 1) := by decide +kernel
theorem dX1_set_98 : decode cX1_set 98 = .ok (.isub, 1) := by decide +kernel
theorem dX1_set_99 : decode cX1_set 99 = .ok (.ireturn, 1) := by decide +kernel
set_option maxRecDepth 20000 in
theorem ggX1_join_X1_isQuestion : GoodIn wsX1_join wsX1_isQuestion := goodIn_r _ [8, 2, 13, 14, 15, 16, 17, 18, 19] (by decide +kernel) (by decide +kernel)
set_option maxRecDepth 20000 in
theorem gX1_join_X1_isQuestion : GoodIn wsX1_join (wsV RX1 39 RX1 yX1_isQuestion wsX1_isQuestion) := goodIn_app (goodIn_of _ (by decide +kernel)) ggX1_join_X1_isQuestion
set_option maxRecDepth 20000 in
theorem ggX1_join_X1_isTrue : GoodIn wsX1_join wsX1_isTrue := goodIn_r _ [12, 3, 13, 14, 15, 16, 17, 18, 19] (by decide +kernel) (by decide +kernel)
set_option maxRecDepth 20000 in
theorem gX1_join_X1_isTrue : GoodIn wsX1_join (wsV RX1 42 RX1 yX1_isTrue wsX1_isTrue) := goodIn_app (goodIn_of _ (by decide +kernel)) ggX1_join_X1_isTrue
theorem dX1_join_0 : decode cX1_join 0 = .ok (.aload_n 0, 1) := by decide +kernel
theorem dX1_join_1 : decode cX1_join 1 = .ok (.iconst 0, 1) := by decide +kernel
theorem dX1_join_2 : decode cX1_join 2 = .ok (.putfield 21, 3) := by decide +kernel
theorem dX1_join_5 : decode cX1_join 5 = .ok (.iload_n 1, 1) := by decide +kernel
theorem dX1_join_6 : decode cX1_join 6 = .ok (.ifCond .lt 29, 3) := by decide +kernel
theorem dX1_join_9 : decode cX1_join 9 = .ok (.iload_n 1, 1) := by decide +kernel
theorem dX1_join_10 : decode cX1_join 10 = .ok (.iconst 3, 1) := by decide +kernel
theorem dX1_join_11 : decode cX1_join 11 = .ok (.if_icmp .gt 24, 3) := by decide +kernel
theorem dX1_join_14 : decode cX1_join 14 = .ok (.aload_n 0, 1) := by decide +kernel
theorem dX1_join_15 : decode cX1_join 15 = .ok (.iload_n 2, 1) := by decide +kernel
theorem dX1_join_16 : decode cX1_join 16 = .ok (.invokevirtual 39, 3) := by decide +kernel
theorem dX1_join_19 : decode cX1_join 19 = .ok (.ifCond .eq 16, 3) := by decide +kernel
theorem dX1_join_22 : decode cX1_join 22 = .ok (.iload_n 1, 1) := by decide +kernel
theorem dX1_join_23 : decode cX1_join 23 = .ok (.iconst 3, 1) := by decide +kernel
theorem dX1_join_24 : decode cX1_join 24 = .ok (.if_icmp .ge 13, 3) := by decide +kernel
theorem dX1_join_27 : decode cX1_join 27 = .ok (.aload_n 0, 1) := by decide +kernel
theorem dX1_join_28 : decode cX1_join 28 = .ok (.iload_n 3, 1) := by decide +kernel
theorem dX1_join_29 : decode cX1_join 29 = .ok (.invokevirtual 39, 3) := by decide +kernel
theorem dX1_join_32 : decode cX1_join 32 = .ok (.ifCond .ne 5, 3) := by decide +kernel
theorem dX1_join_35 : decode cX1_join 35 = .ok (.iconst (-1), 1) := by decide +kernel
theorem dX1_join_36 : decode cX1_join 36 = .ok (.ireturn, 1) := by decide +kernel
theorem dX1_join_37 : decode cX1_join 37 = .ok (.aload_n 0, 1) := by decide +kernel
theorem dX1_join_38 : decode cX1_join 38 = .ok (.getfield 25, 3) := by decide +kernel
theorem dX1_join_41 : decode cX1_join 41 = .ok (.bipush 40, 2) := by decide +kernel
theorem dX1_join_43 : decode cX1_join 43 = .ok (.if_icmp .ne 6, 3) := by decide +kernel
theorem dX1_join_46 : decode cX1_join 46 = .ok (.bipush (-3), 2) := by decide +kernel
theorem dX1_join_48 : decode cX1_join 48 = .ok (.ireturn, 1) := by decide +kernel
theorem dX1_join_49 : decode cX1_join 49 = .ok (.iconst 0, 1) := by decide +kernel
theorem dX1_join_50 : decode cX1_join 50 = .ok (.istore 4, 2) := by decide +kernel
theorem dX1_join_52 : decode cX1_join 52 = .ok (.iload 4, 2) := by decide +kernel
theorem dX1_join_54 : decode cX1_join 54 = .ok (.sipush 4096, 3) := by decide +kernel
theorem dX1_join_57 : decode cX1_join 57 = .ok (.if_icmp .ge 131, 3) := by decide +kernel
theorem dX1_join_60 : decode cX1_join 60 = .ok (.aload_n 0, 1) := by decide +kernel
theorem dX1_join_61 : decode cX1_join 61 = .ok (.iload_n 2, 1) := by decide +kernel
theorem dX1_join_62 : decode cX1_join 62 = .ok (.iload 4, 2) := by decide +kernel
theorem dX1_join_64 : decode cX1_join 64 = .ok (.invokevirtual 42, 3) := by decide +kernel
theorem dX1_join_67 : decode cX1_join 67 = .ok (.istore 5, 2) := by decide +kernel
theorem dX1_join_69 : decode cX1_join 69 = .ok (.iload_n 1, 1) := by decide +kernel
theorem dX1_join_70 : decode cX1_join 70 = .ok (.iconst 3, 1) := by decide +kernel
theorem dX1_join_71 : decode cX1_join 71 = .ok (.if_icmp .ge 17, 3) := by decide +kernel
theorem dX1_join_74 : decode cX1_join 74 = .ok (.aload_n 0, 1) := by decide +kernel
theorem dX1_join_75 : decode cX1_join 75 = .ok (.iload_n 3, 1) := by decide +kernel
theorem dX1_join_76 : decode cX1_join 76 = .ok (.iload 4, 2) := by decide +kernel
theorem dX1_join_78 : decode cX1_join 78 = .ok (.invokevirtual 42, 3) := by decide +kernel
theorem dX1_join_81 : decode cX1_join 81 = .ok (.ifCond .eq 7, 3) := by decide +kernel
theorem dX1_join_84 : decode cX1_join 84 = .ok (.iconst 1, 1) := by decide +kernel
theorem dX1_join_85 : decode cX1_join 85 = .ok (.goto 4, 3) := by decide +kernel
theorem dX1_join_88 : decode cX1_join 88 = .ok (.iconst 0, 1) := by decide +kernel
theorem dX1_join_89 : decode cX1_join 89 = .ok (.istore 6, 2) := by decide +kernel
theorem dX1_join_91 : decode cX1_join 91 = .ok (.aload_n 0, 1) := by decide +kernel
theorem dX1_join_92 : decode cX1_join 92 = .ok (.getfield 17, 3) := by decide +kernel
theorem dX1_join_95 : decode cX1_join 95 = .ok (.sipush 4096, 3) := by decide +kernel
theorem dX1_join_98 : decode cX1_join 98 = .ok (.aload_n 0, 1) := by decide +kernel
theorem dX1_join_99 : decode cX1_join 99 = .ok (.getfield 25, 3) := by decide +kernel
theorem dX1_join_102 : decode cX1_join 102 = .ok (.imul, 1) := by decide +kernel
theorem dX1_join_103 : decode cX1_join 103 = .ok (.iload 4, 2) := by decide +kernel
theorem dX1_join_105 : decode cX1_join 105 = .ok (.iadd, 1) := by decide +kernel
theorem dX1_join_106 : decode cX1_join 106 = .ok (.iload_n 1, 1) := by decide +kernel
theorem dX1_join_107 : decode cX1_join 107 = .ok (.ifCond .ne 21, 3) := by decide +kernel
theorem dX1_join_110 : decode cX1_join 110 = .ok (.iload 5, 2) := by decide +kernel
theorem dX1_join_112 : decode cX1_join 112 = .ok (.ifCond .eq 12, 3) := by decide +kernel
theorem dX1_join_115 : decode cX1_join 115 = .ok (.iload 6, 2) := by decide +kernel
theorem dX1_join_117 : decode cX1_join 117 = .ok (.ifCond .eq 7, 3) := by decide +kernel
theorem dX1_join_120 : decode cX1_join 120 = .ok (.iconst 1, 1) := by decide +kernel
theorem dX1_join_121 : decode cX1_join 121 = .ok (.goto 60, 3) := by decide +kernel
theorem dX1_join_124 : decode cX1_join 124 = .ok (.iconst 0, 1) := by decide +kernel
theorem dX1_join_125 : decode cX1_join 125 = .ok (.goto 56, 3) := by decide +kernel
theorem dX1_join_128 : decode cX1_join 128 = .ok (.iload_n 1, 1) := by decide +kernel
theorem dX1_join_129 : decode cX1_join 129 = .ok (.iconst 1, 1) := by decide +kernel
theorem dX1_join_130 : decode cX1_join 130 = .ok (.if_icmp .ne 21, 3) := by decide +kernel
theorem dX1_join_133 : decode cX1_join 133 = .ok (.iload 5, 2) := by decide +kernel
theorem dX1_join_135 : decode cX1_join 135 = .ok (.ifCond .ne 8, 3) := by decide +kernel
theorem dX1_join_138 : decode cX1_join 138 = .ok (.iload 6, 2) := by decide +kernel
theorem dX1_join_140 : decode cX1_join 140 = .ok (.ifCond .eq 7, 3) := by decide +kernel
theorem dX1_join_143 : decode cX1_join 143 = .ok (.iconst 1, 1) := by decide +kernel
theorem dX1_join_144 : decode cX1_join 144 = .ok (.goto 37, 3) := by decide +kernel
theorem dX1_join_147 : decode cX1_join 147 = .ok (.iconst 0, 1) := by decide +kernel
theorem dX1_join_148 : decode cX1_join 148 = .ok (.goto 33, 3) := by decide +kernel
theorem dX1_join_151 : decode cX1_join 151 = .ok (.iload_n 1, 1) := by decide +kernel
theorem dX1_join_152 : decode cX1_join 152 = .ok (.iconst 2, 1) := by decide +kernel
theorem dX1_join_153 : decode cX1_join 153 = .ok (.if_icmp .ne 18, 3) := by decide +kernel
theorem dX1_join_156 : decode cX1_join 156 = .ok (.iload 5, 2) := by decide +kernel
theorem dX1_join_158 : decode cX1_join 158 = .ok (.iload 6, 2) := by decide +kernel
theorem dX1_join_160 : decode cX1_join 160 = .ok (.if_icmp .eq 7, 3) := by decide +kernel
theorem dX1_join_163 : decode cX1_join 163 = .ok (.iconst 1, 1) := by decide +kernel
theorem dX1_join_164 : decode cX1_join 164 = .ok (.goto 17, 3) := by decide +kernel
theorem dX1_join_167 : decode cX1_join 167 = .ok (.iconst 0, 1) := by decide +kernel
theorem dX1_join_168 : decode cX1_join 168 = .ok (.goto 13, 3) := by decide +kernel
theorem dX1_join_171 : decode cX1_join 171 = .ok (.iload 5, 2) := by decide +kernel
theorem dX1_join_173 : decode cX1_join 173 = .ok (.ifCond .ne 7, 3) := by decide +kernel
theorem dX1_join_176 : decode cX1_join 176 = .ok (.iconst 1, 1) := by decide +kernel
theorem dX1_join_177 : decode cX1_join 177 = .ok (.goto 4, 3) := by decide +kernel
theorem dX1_join_180 : decode cX1_join 180 = .ok (.iconst 0, 1) := by decide +kernel
theorem dX1_join_181 : decode cX1_join 181 = .ok (.bastore, 1) := by decide +kernel
theorem dX1_join_182 : decode cX1_join 182 = .ok (.iinc 4 1, 3) := by decide +kernel
theorem dX1_join_185 : decode cX1_join 185 = .ok (.goto (-133), 3) := by decide +kernel
theorem dX1_join_188 : decode cX1_join 188 = .ok (.aload_n 0, 1) := by decide +kernel
theorem dX1_join_189 : decode cX1_join 189 = .ok (.dup, 1) := by decide +kernel
theorem dX1_join_190 : decode cX1_join 190 = .ok (.getfield 25, 3) := by decide +kernel
theorem dX1_join_193 : decode cX1_join 193 = .ok (.iconst 1, 1) := by decide +kernel
theorem dX1_join_194 : decode cX1_join 194 = .ok (.iadd, 1) := by decide +kernel
theorem dX1_join_195 : decode cX1_join 195 = .ok (.putfield 25, 3) := by decide +kernel
theorem dX1_join_198 : decode cX1_join 198 = .ok (.aload_n 0, 1) := by decide +kernel
theorem dX1_join_199 : decode cX1_join 199 = .ok (.getfield 25, 3) := by decide +kernel
theorem dX1_join_202 : decode cX1_join 202 = .ok (.iconst 1, 1) := by decide +kernel
theorem dX1_join_203 : decode cX1_join 203 = .ok (.isub, 1) := by decide +kernel
theorem dX1_join_204 : decode cX1_join 204 = .ok (.ireturn, 1) := by decide +kernel
theorem dX1_size_0 : decode cX1_size 0 = .ok (.iconst 0, 1) := by decide +kernel
theorem dX1_size_1 : decode cX1_size 1 = .ok (.istore_n 1, 1) := by decide +kernel
theorem dX1_size_2 : decode cX1_size 2 = .ok (.iload_n 0, 1) := by decide +kernel
theorem dX1_size_3 : decode cX1_size 3 = .ok (.istore_n 2, 1) := by decide +kernel
theorem dX1_size_4 : decode cX1_size 4 = .ok (.iload_n 2, 1) := by decide +kernel
theorem dX1_size_5 : decode cX1_size 5 = .ok (.ifCond .le 16, 3) := by decide +kernel
theorem dX1_size_8 : decode cX1_size 8 = .ok (.iload_n 1, 1) := by decide +kernel
theorem dX1_size_9 : decode cX1_size 9 = .ok (.iload_n 2, 1) := by decide +kernel
theorem dX1_size_10 : decode cX1_size 10 = .ok (.iconst 2, 1) := by decide +kernel
theorem dX1_size_11 : decode cX1_size 11 = .ok (.irem, 1) := by decide +kernel
theorem dX1_size_12 : decode cX1_size 12 = .ok (.iadd, 1) := by decide +kernel
theorem dX1_size_13 : decode cX1_size 13 = .ok (.istore_n 1, 1) := by decide +kernel
theorem dX1_size_14 : decode cX1_size 14 = .ok (.iload_n 2, 1) := by decide +kernel
theorem dX1_size_15 : decode cX1_size 15 = .ok (.iconst 2, 1) := by decide +kernel
theorem dX1_size_16 : decode cX1_size 16 = .ok (.idiv, 1) := by decide +kernel
theorem dX1_size_17 : decode cX1_size 17 = .ok (.istore_n 2, 1) := by decide +kernel
theorem dX1_size_18 : decode cX1_size 18 = .ok (.goto (-14), 3) := by decide +kernel
theorem dX1_size_21 : decode cX1_size 21 = .ok (.iload_n 1, 1) := by decide +kernel
theorem dX1_size_22 : decode cX1_size 22 = .ok (.ireturn, 1) := by decide +kernel
set_option maxRecDepth 20000 in
theorem ggX1_some_X1_areFacts : GoodIn wsX1_some wsX1_areFacts := goodIn_r _ [8, 9, 13, 14, 15, 16, 17, 18, 19] (by decide +kernel) (by decide +kernel)
set_option maxRecDepth 20000 in
theorem gX1_some_X1_areFacts : GoodIn wsX1_some (wsV RX1 35 RX1 yX1_areFacts wsX1_areFacts) := goodIn_app (goodIn_of _ (by decide +kernel)) ggX1_some_X1_areFacts
set_option maxRecDepth 20000 in
theorem ggX1_some_X1_size : GoodIn wsX1_some wsX1_size := goodIn_r _ [12] (by decide +kernel) (by decide +kernel)
set_option maxRecDepth 20000 in
theorem gX1_some_X1_size : GoodIn wsX1_some (va_wsS RX1 45 yX1_size wsX1_size) := goodIn_app (goodIn_of _ (by decide +kernel)) ggX1_some_X1_size
theorem dX1_some_0 : decode cX1_some 0 = .ok (.aload_n 0, 1) := by decide +kernel
theorem dX1_some_1 : decode cX1_some 1 = .ok (.iconst 0, 1) := by decide +kernel
theorem dX1_some_2 : decode cX1_some 2 = .ok (.putfield 21, 3) := by decide +kernel
theorem dX1_some_5 : decode cX1_some 5 = .ok (.aload_n 0, 1) := by decide +kernel
theorem dX1_some_6 : decode cX1_some 6 = .ok (.iload_n 1, 1) := by decide +kernel
theorem dX1_some_7 : decode cX1_some 7 = .ok (.invokevirtual 35, 3) := by decide +kernel
theorem dX1_some_10 : decode cX1_some 10 = .ok (.ifCond .ne 5, 3) := by decide +kernel
theorem dX1_some_13 : decode cX1_some 13 = .ok (.iconst (-1), 1) := by decide +kernel
theorem dX1_some_14 : decode cX1_some 14 = .ok (.ireturn, 1) := by decide +kernel
theorem dX1_some_15 : decode cX1_some 15 = .ok (.aload_n 0, 1) := by decide +kernel
theorem dX1_some_16 : decode cX1_some 16 = .ok (.getfield 25, 3) := by decide +kernel
theorem dX1_some_19 : decode cX1_some 19 = .ok (.bipush 40, 2) := by decide +kernel
theorem dX1_some_21 : decode cX1_some 21 = .ok (.if_icmp .ne 6, 3) := by decide +kernel
theorem dX1_some_24 : decode cX1_some 24 = .ok (.bipush (-3), 2) := by decide +kernel
theorem dX1_some_26 : decode cX1_some 26 = .ok (.ireturn, 1) := by decide +kernel
theorem dX1_some_27 : decode cX1_some 27 = .ok (.iconst 0, 1) := by decide +kernel
theorem dX1_some_28 : decode cX1_some 28 = .ok (.istore 4, 2) := by decide +kernel
theorem dX1_some_30 : decode cX1_some 30 = .ok (.iload 4, 2) := by decide +kernel
theorem dX1_some_32 : decode cX1_some 32 = .ok (.sipush 4096, 3) := by decide +kernel
theorem dX1_some_35 : decode cX1_some 35 = .ok (.if_icmp .ge 51, 3) := by decide +kernel
theorem dX1_some_38 : decode cX1_some 38 = .ok (.iload 4, 2) := by decide +kernel
theorem dX1_some_40 : decode cX1_some 40 = .ok (.iload_n 1, 1) := by decide +kernel
theorem dX1_some_41 : decode cX1_some 41 = .ok (.iand, 1) := by decide +kernel
theorem dX1_some_42 : decode cX1_some 42 = .ok (.invokestatic 45, 3) := by decide +kernel
theorem dX1_some_45 : decode cX1_some 45 = .ok (.istore 5, 2) := by decide +kernel
theorem dX1_some_47 : decode cX1_some 47 = .ok (.aload_n 0, 1) := by decide +kernel
theorem dX1_some_48 : decode cX1_some 48 = .ok (.getfield 17, 3) := by decide +kernel
theorem dX1_some_51 : decode cX1_some 51 = .ok (.sipush 4096, 3) := by decide +kernel
theorem dX1_some_54 : decode cX1_some 54 = .ok (.aload_n 0, 1) := by decide +kernel
theorem dX1_some_55 : decode cX1_some 55 = .ok (.getfield 25, 3) := by decide +kernel
theorem dX1_some_58 : decode cX1_some 58 = .ok (.imul, 1) := by decide +kernel
theorem dX1_some_59 : decode cX1_some 59 = .ok (.iload 4, 2) := by decide +kernel
theorem dX1_some_61 : decode cX1_some 61 = .ok (.iadd, 1) := by decide +kernel
theorem dX1_some_62 : decode cX1_some 62 = .ok (.iload 5, 2) := by decide +kernel
theorem dX1_some_64 : decode cX1_some 64 = .ok (.iload_n 2, 1) := by decide +kernel
theorem dX1_some_65 : decode cX1_some 65 = .ok (.if_icmp .lt 13, 3) := by decide +kernel
theorem dX1_some_68 : decode cX1_some 68 = .ok (.iload 5, 2) := by decide +kernel
theorem dX1_some_70 : decode cX1_some 70 = .ok (.iload_n 3, 1) := by decide +kernel
theorem dX1_some_71 : decode cX1_some 71 = .ok (.if_icmp .gt 7, 3) := by decide +kernel
theorem dX1_some_74 : decode cX1_some 74 = .ok (.iconst 1, 1) := by decide +kernel
theorem dX1_some_75 : decode cX1_some 75 = .ok (.goto 4, 3) := by decide +kernel
theorem dX1_some_78 : decode cX1_some 78 = .ok (.iconst 0, 1) := by decide +kernel
theorem dX1_some_79 : decode cX1_some 79 = .ok (.bastore, 1) := by decide +kernel
theorem dX1_some_80 : decode cX1_some 80 = .ok (.iinc 4 1, 3) := by decide +kernel
theorem dX1_some_83 : decode cX1_some 83 = .ok (.goto (-53), 3) := by decide +kernel
theorem dX1_some_86 : decode cX1_some 86 = .ok (.aload_n 0, 1) := by decide +kernel
theorem dX1_some_87 : decode cX1_some 87 = .ok (.dup, 1) := by decide +kernel
theorem dX1_some_88 : decode cX1_some 88 = .ok (.getfield 25, 3) := by decide +kernel
theorem dX1_some_91 : decode cX1_some 91 = .ok (.iconst 1, 1) := by decide +kernel
theorem dX1_some_92 : decode cX1_some 92 = .ok (.iadd, 1) := by decide +kernel
theorem dX1_some_93 : decode cX1_some 93 = .ok (.putfield 25, 3) := by decide +kernel
theorem dX1_some_96 : decode cX1_some 96 = .ok (.aload_n 0, 1) := by decide +kernel
theorem dX1_some_97 : decode cX1_some 97 = .ok (.getfield 25, 3) := by decide +kernel
theorem dX1_some_100 : decode cX1_some 100 = .ok (.iconst 1, 1) := by decide +kernel
theorem dX1_some_101 : decode cX1_some 101 = .ok (.isub, 1) := by decide +kernel
theorem dX1_some_102 : decode cX1_some 102 = .ok (.ireturn, 1) := by decide +kernel
set_option maxRecDepth 20000 in
theorem ggX1_holds_X1_isQuestion : GoodIn wsX1_holds wsX1_isQuestion := goodIn_r _ [7, 8, 14, 15, 16, 17, 18, 19, 20] (by decide +kernel) (by decide +kernel)
set_option maxRecDepth 20000 in
theorem gX1_holds_X1_isQuestion : GoodIn wsX1_holds (wsV RX1 39 RX1 yX1_isQuestion wsX1_isQuestion) := goodIn_app (goodIn_of _ (by decide +kernel)) ggX1_holds_X1_isQuestion
set_option maxRecDepth 20000 in
theorem ggX1_holds_X1_isTrue : GoodIn wsX1_holds wsX1_isTrue := goodIn_r _ [12, 13, 14, 15, 16, 17, 18, 19, 20] (by decide +kernel) (by decide +kernel)
set_option maxRecDepth 20000 in
theorem gX1_holds_X1_isTrue : GoodIn wsX1_holds (wsV RX1 42 RX1 yX1_isTrue wsX1_isTrue) := goodIn_app (goodIn_of _ (by decide +kernel)) ggX1_holds_X1_isTrue
theorem dX1_holds_0 : decode cX1_holds 0 = .ok (.aload_n 0, 1) := by decide +kernel
theorem dX1_holds_1 : decode cX1_holds 1 = .ok (.iconst 0, 1) := by decide +kernel
theorem dX1_holds_2 : decode cX1_holds 2 = .ok (.putfield 21, 3) := by decide +kernel
theorem dX1_holds_5 : decode cX1_holds 5 = .ok (.aload_n 0, 1) := by decide +kernel
theorem dX1_holds_6 : decode cX1_holds 6 = .ok (.iload_n 1, 1) := by decide +kernel
theorem dX1_holds_7 : decode cX1_holds 7 = .ok (.invokevirtual 39, 3) := by decide +kernel
theorem dX1_holds_10 : decode cX1_holds 10 = .ok (.ifCond .ne 7, 3) := by decide +kernel
theorem dX1_holds_13 : decode cX1_holds 13 = .ok (.iconst (-1), 1) := by decide +kernel
theorem dX1_holds_14 : decode cX1_holds 14 = .ok (.goto 26, 3) := by decide +kernel
theorem dX1_holds_17 : decode cX1_holds 17 = .ok (.aload_n 0, 1) := by decide +kernel
theorem dX1_holds_18 : decode cX1_holds 18 = .ok (.iload_n 1, 1) := by decide +kernel
theorem dX1_holds_19 : decode cX1_holds 19 = .ok (.iload_n 2, 1) := by decide +kernel
theorem dX1_holds_20 : decode cX1_holds 20 = .ok (.iconst 1, 1) := by decide +kernel
theorem dX1_holds_21 : decode cX1_holds 21 = .ok (.aload_n 0, 1) := by decide +kernel
theorem dX1_holds_22 : decode cX1_holds 22 = .ok (.getfield 28, 3) := by decide +kernel
theorem dX1_holds_25 : decode cX1_holds 25 = .ok (.ishl, 1) := by decide +kernel
theorem dX1_holds_26 : decode cX1_holds 26 = .ok (.iconst 1, 1) := by decide +kernel
theorem dX1_holds_27 : decode cX1_holds 27 = .ok (.isub, 1) := by decide +kernel
theorem dX1_holds_28 : decode cX1_holds 28 = .ok (.iand, 1) := by decide +kernel
theorem dX1_holds_29 : decode cX1_holds 29 = .ok (.invokevirtual 42, 3) := by decide +kernel
theorem dX1_holds_32 : decode cX1_holds 32 = .ok (.ifCond .eq 7, 3) := by decide +kernel
theorem dX1_holds_35 : decode cX1_holds 35 = .ok (.iconst 1, 1) := by decide +kernel
theorem dX1_holds_36 : decode cX1_holds 36 = .ok (.goto 4, 3) := by decide +kernel
theorem dX1_holds_39 : decode cX1_holds 39 = .ok (.iconst 0, 1) := by decide +kernel
theorem dX1_holds_40 : decode cX1_holds 40 = .ok (.ireturn, 1) := by decide +kernel
theorem dX1_weigh_0 : decode cX1_weigh 0 = .ok (.lconst 1, 1) := by decide +kernel
theorem dX1_weigh_1 : decode cX1_weigh 1 = .ok (.lstore_n 2, 1) := by decide +kernel
theorem dX1_weigh_2 : decode cX1_weigh 2 = .ok (.iconst 0, 1) := by decide +kernel
theorem dX1_weigh_3 : decode cX1_weigh 3 = .ok (.istore 4, 2) := by decide +kernel
theorem dX1_weigh_5 : decode cX1_weigh 5 = .ok (.iload 4, 2) := by decide +kernel
theorem dX1_weigh_7 : decode cX1_weigh 7 = .ok (.aload_n 0, 1) := by decide +kernel
theorem dX1_weigh_8 : decode cX1_weigh 8 = .ok (.getfield 28, 3) := by decide +kernel
theorem dX1_weigh_11 : decode cX1_weigh 11 = .ok (.if_icmp .ge 48, 3) := by decide +kernel
theorem dX1_weigh_14 : decode cX1_weigh 14 = .ok (.lload_n 2, 1) := by decide +kernel
theorem dX1_weigh_15 : decode cX1_weigh 15 = .ok (.iload_n 1, 1) := by decide +kernel
theorem dX1_weigh_16 : decode cX1_weigh 16 = .ok (.iload 4, 2) := by decide +kernel
theorem dX1_weigh_18 : decode cX1_weigh 18 = .ok (.ishr, 1) := by decide +kernel
theorem dX1_weigh_19 : decode cX1_weigh 19 = .ok (.iconst 1, 1) := by decide +kernel
theorem dX1_weigh_20 : decode cX1_weigh 20 = .ok (.iand, 1) := by decide +kernel
theorem dX1_weigh_21 : decode cX1_weigh 21 = .ok (.iconst 1, 1) := by decide +kernel
theorem dX1_weigh_22 : decode cX1_weigh 22 = .ok (.if_icmp .ne 13, 3) := by decide +kernel
theorem dX1_weigh_25 : decode cX1_weigh 25 = .ok (.aload_n 0, 1) := by decide +kernel
theorem dX1_weigh_26 : decode cX1_weigh 26 = .ok (.getfield 7, 3) := by decide +kernel
theorem dX1_weigh_29 : decode cX1_weigh 29 = .ok (.iload 4, 2) := by decide +kernel
theorem dX1_weigh_31 : decode cX1_weigh 31 = .ok (.iaload, 1) := by decide +kernel
theorem dX1_weigh_32 : decode cX1_weigh 32 = .ok (.goto 18, 3) := by decide +kernel
theorem dX1_weigh_35 : decode cX1_weigh 35 = .ok (.aload_n 0, 1) := by decide +kernel
theorem dX1_weigh_36 : decode cX1_weigh 36 = .ok (.getfield 13, 3) := by decide +kernel
theorem dX1_weigh_39 : decode cX1_weigh 39 = .ok (.iload 4, 2) := by decide +kernel
theorem dX1_weigh_41 : decode cX1_weigh 41 = .ok (.iaload, 1) := by decide +kernel
theorem dX1_weigh_42 : decode cX1_weigh 42 = .ok (.aload_n 0, 1) := by decide +kernel
theorem dX1_weigh_43 : decode cX1_weigh 43 = .ok (.getfield 7, 3) := by decide +kernel
theorem dX1_weigh_46 : decode cX1_weigh 46 = .ok (.iload 4, 2) := by decide +kernel
theorem dX1_weigh_48 : decode cX1_weigh 48 = .ok (.iaload, 1) := by decide +kernel
theorem dX1_weigh_49 : decode cX1_weigh 49 = .ok (.isub, 1) := by decide +kernel
theorem dX1_weigh_50 : decode cX1_weigh 50 = .ok (.i2l, 1) := by decide +kernel
theorem dX1_weigh_51 : decode cX1_weigh 51 = .ok (.lmul, 1) := by decide +kernel
theorem dX1_weigh_52 : decode cX1_weigh 52 = .ok (.lstore_n 2, 1) := by decide +kernel
theorem dX1_weigh_53 : decode cX1_weigh 53 = .ok (.iinc 4 1, 3) := by decide +kernel
theorem dX1_weigh_56 : decode cX1_weigh 56 = .ok (.goto (-51), 3) := by decide +kernel
theorem dX1_weigh_59 : decode cX1_weigh 59 = .ok (.lload_n 2, 1) := by decide +kernel
theorem dX1_weigh_60 : decode cX1_weigh 60 = .ok (.lreturn, 1) := by decide +kernel
theorem dX1_all_0 : decode cX1_all 0 = .ok (.lconst 1, 1) := by decide +kernel
theorem dX1_all_1 : decode cX1_all 1 = .ok (.lstore_n 1, 1) := by decide +kernel
theorem dX1_all_2 : decode cX1_all 2 = .ok (.iconst 0, 1) := by decide +kernel
theorem dX1_all_3 : decode cX1_all 3 = .ok (.istore_n 3, 1) := by decide +kernel
theorem dX1_all_4 : decode cX1_all 4 = .ok (.iload_n 3, 1) := by decide +kernel
theorem dX1_all_5 : decode cX1_all 5 = .ok (.aload_n 0, 1) := by decide +kernel
theorem dX1_all_6 : decode cX1_all 6 = .ok (.getfield 28, 3) := by decide +kernel
theorem dX1_all_9 : decode cX1_all 9 = .ok (.if_icmp .ge 19, 3) := by decide +kernel
theorem dX1_all_12 : decode cX1_all 12 = .ok (.lload_n 1, 1) := by decide +kernel
theorem dX1_all_13 : decode cX1_all 13 = .ok (.aload_n 0, 1) := by decide +kernel
theorem dX1_all_14 : decode cX1_all 14 = .ok (.getfield 13, 3) := by decide +kernel
theorem dX1_all_17 : decode cX1_all 17 = .ok (.iload_n 3, 1) := by decide +kernel
theorem dX1_all_18 : decode cX1_all 18 = .ok (.iaload, 1) := by decide +kernel
theorem dX1_all_19 : decode cX1_all 19 = .ok (.i2l, 1) := by decide +kernel
theorem dX1_all_20 : decode cX1_all 20 = .ok (.lmul, 1) := by decide +kernel
theorem dX1_all_21 : decode cX1_all 21 = .ok (.lstore_n 1, 1) := by decide +kernel
theorem dX1_all_22 : decode cX1_all 22 = .ok (.iinc 3 1, 3) := by decide +kernel
theorem dX1_all_25 : decode cX1_all 25 = .ok (.goto (-21), 3) := by decide +kernel
theorem dX1_all_28 : decode cX1_all 28 = .ok (.lload_n 1, 1) := by decide +kernel
theorem dX1_all_29 : decode cX1_all 29 = .ok (.lreturn, 1) := by decide +kernel
set_option maxRecDepth 20000 in
theorem ggX1_sum_X1_isTrue : GoodIn wsX1_sum wsX1_isTrue := goodIn_r _ [6, 7, 14, 15, 16, 17, 18, 19, 20] (by decide +kernel) (by decide +kernel)
set_option maxRecDepth 20000 in
theorem gX1_sum_X1_isTrue : GoodIn wsX1_sum (wsV RX1 42 RX1 yX1_isTrue wsX1_isTrue) := goodIn_app (goodIn_of _ (by decide +kernel)) ggX1_sum_X1_isTrue
set_option maxRecDepth 20000 in
theorem ggX1_sum_X1_weigh : GoodIn wsX1_sum wsX1_weigh := goodIn_r _ [11, 1, 12, 13, 14, 15, 16, 17, 18, 19, 20] (by decide +kernel) (by decide +kernel)
set_option maxRecDepth 20000 in
theorem gX1_sum_X1_weigh : GoodIn wsX1_sum (wsV RX1 49 RX1 yX1_weigh wsX1_weigh) := goodIn_app (goodIn_of _ (by decide +kernel)) ggX1_sum_X1_weigh
theorem dX1_sum_0 : decode cX1_sum 0 = .ok (.lconst 0, 1) := by decide +kernel
theorem dX1_sum_1 : decode cX1_sum 1 = .ok (.lstore_n 2, 1) := by decide +kernel
theorem dX1_sum_2 : decode cX1_sum 2 = .ok (.iconst 0, 1) := by decide +kernel
theorem dX1_sum_3 : decode cX1_sum 3 = .ok (.istore 4, 2) := by decide +kernel
theorem dX1_sum_5 : decode cX1_sum 5 = .ok (.iload 4, 2) := by decide +kernel
theorem dX1_sum_7 : decode cX1_sum 7 = .ok (.iconst 1, 1) := by decide +kernel
theorem dX1_sum_8 : decode cX1_sum 8 = .ok (.aload_n 0, 1) := by decide +kernel
theorem dX1_sum_9 : decode cX1_sum 9 = .ok (.getfield 28, 3) := by decide +kernel
theorem dX1_sum_12 : decode cX1_sum 12 = .ok (.ishl, 1) := by decide +kernel
theorem dX1_sum_13 : decode cX1_sum 13 = .ok (.if_icmp .ge 32, 3) := by decide +kernel
theorem dX1_sum_16 : decode cX1_sum 16 = .ok (.lload_n 2, 1) := by decide +kernel
theorem dX1_sum_17 : decode cX1_sum 17 = .ok (.aload_n 0, 1) := by decide +kernel
theorem dX1_sum_18 : decode cX1_sum 18 = .ok (.iload_n 1, 1) := by decide +kernel
theorem dX1_sum_19 : decode cX1_sum 19 = .ok (.iload 4, 2) := by decide +kernel
theorem dX1_sum_21 : decode cX1_sum 21 = .ok (.invokevirtual 42, 3) := by decide +kernel
theorem dX1_sum_24 : decode cX1_sum 24 = .ok (.ifCond .eq 12, 3) := by decide +kernel
theorem dX1_sum_27 : decode cX1_sum 27 = .ok (.aload_n 0, 1) := by decide +kernel
theorem dX1_sum_28 : decode cX1_sum 28 = .ok (.iload 4, 2) := by decide +kernel
theorem dX1_sum_30 : decode cX1_sum 30 = .ok (.invokevirtual 49, 3) := by decide +kernel
theorem dX1_sum_33 : decode cX1_sum 33 = .ok (.goto 4, 3) := by decide +kernel
theorem dX1_sum_36 : decode cX1_sum 36 = .ok (.lconst 0, 1) := by decide +kernel
theorem dX1_sum_37 : decode cX1_sum 37 = .ok (.ladd, 1) := by decide +kernel
theorem dX1_sum_38 : decode cX1_sum 38 = .ok (.lstore_n 2, 1) := by decide +kernel
theorem dX1_sum_39 : decode cX1_sum 39 = .ok (.iinc 4 1, 3) := by decide +kernel
theorem dX1_sum_42 : decode cX1_sum 42 = .ok (.goto (-37), 3) := by decide +kernel
theorem dX1_sum_45 : decode cX1_sum 45 = .ok (.lload_n 2, 1) := by decide +kernel
theorem dX1_sum_46 : decode cX1_sum 46 = .ok (.lreturn, 1) := by decide +kernel
theorem dX1_divisor_0 : decode cX1_divisor 0 = .ok (.lload_n 0, 1) := by decide +kernel
theorem dX1_divisor_1 : decode cX1_divisor 1 = .ok (.lconst 0, 1) := by decide +kernel
theorem dX1_divisor_2 : decode cX1_divisor 2 = .ok (.lcmp, 1) := by decide +kernel
theorem dX1_divisor_3 : decode cX1_divisor 3 = .ok (.ifCond .ge 8, 3) := by decide +kernel
theorem dX1_divisor_6 : decode cX1_divisor 6 = .ok (.lload_n 0, 1) := by decide +kernel
theorem dX1_divisor_7 : decode cX1_divisor 7 = .ok (.lneg, 1) := by decide +kernel
theorem dX1_divisor_8 : decode cX1_divisor 8 = .ok (.goto 4, 3) := by decide +kernel
theorem dX1_divisor_11 : decode cX1_divisor 11 = .ok (.lload_n 0, 1) := by decide +kernel
theorem dX1_divisor_12 : decode cX1_divisor 12 = .ok (.lstore 4, 2) := by decide +kernel
theorem dX1_divisor_14 : decode cX1_divisor 14 = .ok (.lload_n 2, 1) := by decide +kernel
theorem dX1_divisor_15 : decode cX1_divisor 15 = .ok (.lstore 6, 2) := by decide +kernel
theorem dX1_divisor_17 : decode cX1_divisor 17 = .ok (.lload 6, 2) := by decide +kernel
theorem dX1_divisor_19 : decode cX1_divisor 19 = .ok (.lconst 0, 1) := by decide +kernel
theorem dX1_divisor_20 : decode cX1_divisor 20 = .ok (.lcmp, 1) := by decide +kernel
theorem dX1_divisor_21 : decode cX1_divisor 21 = .ok (.ifCond .eq 21, 3) := by decide +kernel
theorem dX1_divisor_24 : decode cX1_divisor 24 = .ok (.lload 4, 2) := by decide +kernel
theorem dX1_divisor_26 : decode cX1_divisor 26 = .ok (.lload 6, 2) := by decide +kernel
theorem dX1_divisor_28 : decode cX1_divisor 28 = .ok (.lrem, 1) := by decide +kernel
theorem dX1_divisor_29 : decode cX1_divisor 29 = .ok (.lstore 8, 2) := by decide +kernel
theorem dX1_divisor_31 : decode cX1_divisor 31 = .ok (.lload 6, 2) := by decide +kernel
theorem dX1_divisor_33 : decode cX1_divisor 33 = .ok (.lstore 4, 2) := by decide +kernel
theorem dX1_divisor_35 : decode cX1_divisor 35 = .ok (.lload 8, 2) := by decide +kernel
theorem dX1_divisor_37 : decode cX1_divisor 37 = .ok (.lstore 6, 2) := by decide +kernel
theorem dX1_divisor_39 : decode cX1_divisor 39 = .ok (.goto (-22), 3) := by decide +kernel
theorem dX1_divisor_42 : decode cX1_divisor 42 = .ok (.lload 4, 2) := by decide +kernel
theorem dX1_divisor_44 : decode cX1_divisor 44 = .ok (.lreturn, 1) := by decide +kernel
set_option maxRecDepth 20000 in
theorem ggX1_part_X1_divisor : GoodIn wsX1_part wsX1_divisor := goodIn_r _ [4] (by decide +kernel) (by decide +kernel)
set_option maxRecDepth 20000 in
theorem gX1_part_X1_divisor : GoodIn wsX1_part (va_wsS RX1 53 yX1_divisor wsX1_divisor) := goodIn_app (goodIn_of _ (by decide +kernel)) ggX1_part_X1_divisor
theorem dX1_part_0 : decode cX1_part 0 = .ok (.lload_n 1, 1) := by decide +kernel
theorem dX1_part_1 : decode cX1_part 1 = .ok (.lload_n 3, 1) := by decide +kernel
theorem dX1_part_2 : decode cX1_part 2 = .ok (.invokestatic 53, 3) := by decide +kernel
theorem dX1_part_5 : decode cX1_part 5 = .ok (.lstore 6, 2) := by decide +kernel
theorem dX1_part_7 : decode cX1_part 7 = .ok (.iload 5, 2) := by decide +kernel
theorem dX1_part_9 : decode cX1_part 9 = .ok (.ifCond .ne 10, 3) := by decide +kernel
theorem dX1_part_12 : decode cX1_part 12 = .ok (.lload_n 1, 1) := by decide +kernel
theorem dX1_part_13 : decode cX1_part 13 = .ok (.lload 6, 2) := by decide +kernel
theorem dX1_part_15 : decode cX1_part 15 = .ok (.ldiv, 1) := by decide +kernel
theorem dX1_part_16 : decode cX1_part 16 = .ok (.goto 7, 3) := by decide +kernel
theorem dX1_part_19 : decode cX1_part 19 = .ok (.lload_n 3, 1) := by decide +kernel
theorem dX1_part_20 : decode cX1_part 20 = .ok (.lload 6, 2) := by decide +kernel
theorem dX1_part_22 : decode cX1_part 22 = .ok (.ldiv, 1) := by decide +kernel
theorem dX1_part_23 : decode cX1_part 23 = .ok (.lreturn, 1) := by decide +kernel
set_option maxRecDepth 20000 in
theorem ggX1_chance_X1_isQuestion : GoodIn wsX1_chance wsX1_isQuestion := goodIn_r _ [7, 8, 36, 37, 38, 39, 40, 41, 42] (by decide +kernel) (by decide +kernel)
set_option maxRecDepth 20000 in
theorem gX1_chance_X1_isQuestion : GoodIn wsX1_chance (wsV RX1 39 RX1 yX1_isQuestion wsX1_isQuestion) := goodIn_app (goodIn_of _ (by decide +kernel)) ggX1_chance_X1_isQuestion
set_option maxRecDepth 20000 in
theorem ggX1_chance_X1_sum : GoodIn wsX1_chance wsX1_sum := goodIn_r _ [12, 13, 14, 15, 16, 6, 17, 18, 19, 20, 21, 22, 23, 24, 36, 37, 38, 39, 40, 41, 42] (by decide +kernel) (by decide +kernel)
set_option maxRecDepth 20000 in
theorem gX1_chance_X1_sum : GoodIn wsX1_chance (wsV RX1 57 RX1 yX1_sum wsX1_sum) := goodIn_app (goodIn_of _ (by decide +kernel)) ggX1_chance_X1_sum
set_option maxRecDepth 20000 in
theorem ggX1_chance_X1_all : GoodIn wsX1_chance wsX1_all := goodIn_r _ [28, 13, 24, 36, 37, 38, 39, 40, 41, 42] (by decide +kernel) (by decide +kernel)
set_option maxRecDepth 20000 in
theorem gX1_chance_X1_all : GoodIn wsX1_chance (wsV RX1 60 RX1 yX1_all wsX1_all) := goodIn_app (goodIn_of _ (by decide +kernel)) ggX1_chance_X1_all
set_option maxRecDepth 20000 in
theorem ggX1_chance_X1_part : GoodIn wsX1_chance wsX1_part := goodIn_r _ [32, 33, 34, 6, 35] (by decide +kernel) (by decide +kernel)
set_option maxRecDepth 20000 in
theorem gX1_chance_X1_part : GoodIn wsX1_chance (wsV RX1 64 RX1 yX1_part wsX1_part) := goodIn_app (goodIn_of _ (by decide +kernel)) ggX1_chance_X1_part
theorem dX1_chance_0 : decode cX1_chance 0 = .ok (.aload_n 0, 1) := by decide +kernel
theorem dX1_chance_1 : decode cX1_chance 1 = .ok (.iconst 0, 1) := by decide +kernel
theorem dX1_chance_2 : decode cX1_chance 2 = .ok (.putfield 21, 3) := by decide +kernel
theorem dX1_chance_5 : decode cX1_chance 5 = .ok (.aload_n 0, 1) := by decide +kernel
theorem dX1_chance_6 : decode cX1_chance 6 = .ok (.iload_n 1, 1) := by decide +kernel
theorem dX1_chance_7 : decode cX1_chance 7 = .ok (.invokevirtual 39, 3) := by decide +kernel
theorem dX1_chance_10 : decode cX1_chance 10 = .ok (.ifCond .eq 29, 3) := by decide +kernel
theorem dX1_chance_13 : decode cX1_chance 13 = .ok (.iload_n 2, 1) := by decide +kernel
theorem dX1_chance_14 : decode cX1_chance 14 = .ok (.ifCond .eq 8, 3) := by decide +kernel
theorem dX1_chance_17 : decode cX1_chance 17 = .ok (.iload_n 2, 1) := by decide +kernel
theorem dX1_chance_18 : decode cX1_chance 18 = .ok (.iconst 1, 1) := by decide +kernel
theorem dX1_chance_19 : decode cX1_chance 19 = .ok (.if_icmp .ne 20, 3) := by decide +kernel
theorem dX1_chance_22 : decode cX1_chance 22 = .ok (.aload_n 0, 1) := by decide +kernel
theorem dX1_chance_23 : decode cX1_chance 23 = .ok (.aload_n 0, 1) := by decide +kernel
theorem dX1_chance_24 : decode cX1_chance 24 = .ok (.iload_n 1, 1) := by decide +kernel
theorem dX1_chance_25 : decode cX1_chance 25 = .ok (.invokevirtual 57, 3) := by decide +kernel
theorem dX1_chance_28 : decode cX1_chance 28 = .ok (.aload_n 0, 1) := by decide +kernel
theorem dX1_chance_29 : decode cX1_chance 29 = .ok (.invokevirtual 60, 3) := by decide +kernel
theorem dX1_chance_32 : decode cX1_chance 32 = .ok (.iload_n 2, 1) := by decide +kernel
theorem dX1_chance_33 : decode cX1_chance 33 = .ok (.invokevirtual 64, 3) := by decide +kernel
theorem dX1_chance_36 : decode cX1_chance 36 = .ok (.goto 6, 3) := by decide +kernel
theorem dX1_chance_39 : decode cX1_chance 39 = .ok (.ldc2_w 68, 3) := by decide +kernel
theorem dX1_chance_42 : decode cX1_chance 42 = .ok (.lreturn, 1) := by decide +kernel
set_option maxRecDepth 20000 in
theorem ggX1_real_X1_isQuestion : GoodIn wsX1_real wsX1_isQuestion := goodIn_r _ [7, 8, 36, 37, 38, 39, 40, 41, 42] (by decide +kernel) (by decide +kernel)
set_option maxRecDepth 20000 in
theorem gX1_real_X1_isQuestion : GoodIn wsX1_real (wsV RX1 39 RX1 yX1_isQuestion wsX1_isQuestion) := goodIn_app (goodIn_of _ (by decide +kernel)) ggX1_real_X1_isQuestion
set_option maxRecDepth 20000 in
theorem ggX1_real_X1_sum : GoodIn wsX1_real wsX1_sum := goodIn_r _ [12, 13, 14, 15, 16, 6, 17, 18, 19, 20, 21, 22, 23, 24, 36, 37, 38, 39, 40, 41, 42] (by decide +kernel) (by decide +kernel)
set_option maxRecDepth 20000 in
theorem gX1_real_X1_sum : GoodIn wsX1_real (wsV RX1 57 RX1 yX1_sum wsX1_sum) := goodIn_app (goodIn_of _ (by decide +kernel)) ggX1_real_X1_sum
set_option maxRecDepth 20000 in
theorem ggX1_real_X1_all : GoodIn wsX1_real wsX1_all := goodIn_r _ [28, 13, 24, 36, 37, 38, 39, 40, 41, 42] (by decide +kernel) (by decide +kernel)
set_option maxRecDepth 20000 in
theorem gX1_real_X1_all : GoodIn wsX1_real (wsV RX1 60 RX1 yX1_all wsX1_all) := goodIn_app (goodIn_of _ (by decide +kernel)) ggX1_real_X1_all
set_option maxRecDepth 20000 in
theorem ggX1_real_X1_part : GoodIn wsX1_real wsX1_part := goodIn_r _ [32, 33, 34, 6, 35] (by decide +kernel) (by decide +kernel)
set_option maxRecDepth 20000 in
theorem gX1_real_X1_part : GoodIn wsX1_real (wsV RX1 64 RX1 yX1_part wsX1_part) := goodIn_app (goodIn_of _ (by decide +kernel)) ggX1_real_X1_part
theorem dX1_real_0 : decode cX1_real 0 = .ok (.aload_n 0, 1) := by decide +kernel
theorem dX1_real_1 : decode cX1_real 1 = .ok (.iconst 0, 1) := by decide +kernel
theorem dX1_real_2 : decode cX1_real 2 = .ok (.putfield 21, 3) := by decide +kernel
theorem dX1_real_5 : decode cX1_real 5 = .ok (.aload_n 0, 1) := by decide +kernel
theorem dX1_real_6 : decode cX1_real 6 = .ok (.iload_n 1, 1) := by decide +kernel
theorem dX1_real_7 : decode cX1_real 7 = .ok (.invokevirtual 39, 3) := by decide +kernel
theorem dX1_real_10 : decode cX1_real 10 = .ok (.ifCond .ne 7, 3) := by decide +kernel
theorem dX1_real_13 : decode cX1_real 13 = .ok (.ldc2_w 70, 3) := by decide +kernel
theorem dX1_real_16 : decode cX1_real 16 = .ok (.dreturn, 1) := by decide +kernel
theorem dX1_real_17 : decode cX1_real 17 = .ok (.aload_n 0, 1) := by decide +kernel
theorem dX1_real_18 : decode cX1_real 18 = .ok (.iload_n 1, 1) := by decide +kernel
theorem dX1_real_19 : decode cX1_real 19 = .ok (.invokevirtual 57, 3) := by decide +kernel
theorem dX1_real_22 : decode cX1_real 22 = .ok (.lstore_n 2, 1) := by decide +kernel
theorem dX1_real_23 : decode cX1_real 23 = .ok (.aload_n 0, 1) := by decide +kernel
theorem dX1_real_24 : decode cX1_real 24 = .ok (.lload_n 2, 1) := by decide +kernel
theorem dX1_real_25 : decode cX1_real 25 = .ok (.aload_n 0, 1) := by decide +kernel
theorem dX1_real_26 : decode cX1_real 26 = .ok (.invokevirtual 60, 3) := by decide +kernel
theorem dX1_real_29 : decode cX1_real 29 = .ok (.iconst 0, 1) := by decide +kernel
theorem dX1_real_30 : decode cX1_real 30 = .ok (.invokevirtual 64, 3) := by decide +kernel
theorem dX1_real_33 : decode cX1_real 33 = .ok (.l2d, 1) := by decide +kernel
theorem dX1_real_34 : decode cX1_real 34 = .ok (.aload_n 0, 1) := by decide +kernel
theorem dX1_real_35 : decode cX1_real 35 = .ok (.lload_n 2, 1) := by decide +kernel
theorem dX1_real_36 : decode cX1_real 36 = .ok (.aload_n 0, 1) := by decide +kernel
theorem dX1_real_37 : decode cX1_real 37 = .ok (.invokevirtual 60, 3) := by decide +kernel
theorem dX1_real_40 : decode cX1_real 40 = .ok (.iconst 1, 1) := by decide +kernel
theorem dX1_real_41 : decode cX1_real 41 = .ok (.invokevirtual 64, 3) := by decide +kernel
theorem dX1_real_44 : decode cX1_real 44 = .ok (.l2d, 1) := by decide +kernel
theorem dX1_real_45 : decode cX1_real 45 = .ok (.ddiv, 1) := by decide +kernel
theorem dX1_real_46 : decode cX1_real 46 = .ok (.dreturn, 1) := by decide +kernel
theorem dX1_millionths_0 : decode cX1_millionths 0 = .ok (.lload_n 0, 1) := by decide +kernel
theorem dX1_millionths_1 : decode cX1_millionths 1 = .ok (.lload_n 2, 1) := by decide +kernel
theorem dX1_millionths_2 : decode cX1_millionths 2 = .ok (.ldiv, 1) := by decide +kernel
theorem dX1_millionths_3 : decode cX1_millionths 3 = .ok (.lstore 4, 2) := by decide +kernel
theorem dX1_millionths_5 : decode cX1_millionths 5 = .ok (.lload_n 0, 1) := by decide +kernel
theorem dX1_millionths_6 : decode cX1_millionths 6 = .ok (.lload_n 2, 1) := by decide +kernel
theorem dX1_millionths_7 : decode cX1_millionths 7 = .ok (.lrem, 1) := by decide +kernel
theorem dX1_millionths_8 : decode cX1_millionths 8 = .ok (.lstore 6, 2) := by decide +kernel
theorem dX1_millionths_10 : decode cX1_millionths 10 = .ok (.iconst 0, 1) := by decide +kernel
theorem dX1_millionths_11 : decode cX1_millionths 11 = .ok (.istore 8, 2) := by decide +kernel
theorem dX1_millionths_13 : decode cX1_millionths 13 = .ok (.iload 8, 2) := by decide +kernel
theorem dX1_millionths_15 : decode cX1_millionths 15 = .ok (.bipush 6, 2) := by decide +kernel
theorem dX1_millionths_17 : decode cX1_millionths 17 = .ok (.if_icmp .ge 36, 3) := by decide +kernel
theorem dX1_millionths_20 : decode cX1_millionths 20 = .ok (.ldc2_w 72, 3) := by decide +kernel
theorem dX1_millionths_23 : decode cX1_millionths 23 = .ok (.lload 6, 2) := by decide +kernel
theorem dX1_millionths_25 : decode cX1_millionths 25 = .ok (.lmul, 1) := by decide +kernel
theorem dX1_millionths_26 : decode cX1_millionths 26 = .ok (.lstore 6, 2) := by decide +kernel
theorem dX1_millionths_28 : decode cX1_millionths 28 = .ok (.ldc2_w 72, 3) := by decide +kernel
theorem dX1_millionths_31 : decode cX1_millionths 31 = .ok (.lload 4, 2) := by decide +kernel
theorem dX1_millionths_33 : decode cX1_millionths 33 = .ok (.lmul, 1) := by decide +kernel
theorem dX1_millionths_34 : decode cX1_millionths 34 = .ok (.lload 6, 2) := by decide +kernel
theorem dX1_millionths_36 : decode cX1_millionths 36 = .ok (.lload_n 2, 1) := by decide +kernel
theorem dX1_millionths_37 : decode cX1_millionths 37 = .ok (.ldiv, 1) := by decide +kernel
theorem dX1_millionths_38 : decode cX1_millionths 38 = .ok (.ladd, 1) := by decide +kernel
theorem dX1_millionths_39 : decode cX1_millionths 39 = .ok (.lstore 4, 2) := by decide +kernel
theorem dX1_millionths_41 : decode cX1_millionths 41 = .ok (.lload 6, 2) := by decide +kernel
theorem dX1_millionths_43 : decode cX1_millionths 43 = .ok (.lload_n 2, 1) := by decide +kernel
theorem dX1_millionths_44 : decode cX1_millionths 44 = .ok (.lrem, 1) := by decide +kernel
theorem dX1_millionths_45 : decode cX1_millionths 45 = .ok (.lstore 6, 2) := by decide +kernel
theorem dX1_millionths_47 : decode cX1_millionths 47 = .ok (.iinc 8 1, 3) := by decide +kernel
theorem dX1_millionths_50 : decode cX1_millionths 50 = .ok (.goto (-37), 3) := by decide +kernel
theorem dX1_millionths_53 : decode cX1_millionths 53 = .ok (.lload 4, 2) := by decide +kernel
theorem dX1_millionths_55 : decode cX1_millionths 55 = .ok (.lreturn, 1) := by decide +kernel
set_option maxRecDepth 20000 in
theorem ggX1_given_X1_isQuestion : GoodIn wsX1_given wsX1_isQuestion := goodIn_r _ [7, 8, 24, 25, 26, 27, 28, 29, 30] (by decide +kernel) (by decide +kernel)
set_option maxRecDepth 20000 in
theorem gX1_given_X1_isQuestion : GoodIn wsX1_given (wsV RX1 39 RX1 yX1_isQuestion wsX1_isQuestion) := goodIn_app (goodIn_of _ (by decide +kernel)) ggX1_given_X1_isQuestion
set_option maxRecDepth 20000 in
theorem ggX1_given_X1_isTrue : GoodIn wsX1_given wsX1_isTrue := goodIn_r _ [12, 13, 24, 25, 26, 27, 28, 29, 30] (by decide +kernel) (by decide +kernel)
set_option maxRecDepth 20000 in
theorem gX1_given_X1_isTrue : GoodIn wsX1_given (wsV RX1 42 RX1 yX1_isTrue wsX1_isTrue) := goodIn_app (goodIn_of _ (by decide +kernel)) ggX1_given_X1_isTrue
set_option maxRecDepth 20000 in
theorem ggX1_given_X1_weigh : GoodIn wsX1_given wsX1_weigh := goodIn_r _ [17, 2, 18, 19, 24, 25, 26, 27, 28, 29, 30] (by decide +kernel) (by decide +kernel)
set_option maxRecDepth 20000 in
theorem gX1_given_X1_weigh : GoodIn wsX1_given (wsV RX1 49 RX1 yX1_weigh wsX1_weigh) := goodIn_app (goodIn_of _ (by decide +kernel)) ggX1_given_X1_weigh
set_option maxRecDepth 20000 in
theorem ggX1_given_X1_millionths : GoodIn wsX1_given wsX1_millionths := goodIn_r _ [22, 23] (by decide +kernel) (by decide +kernel)
set_option maxRecDepth 20000 in
theorem gX1_given_X1_millionths : GoodIn wsX1_given (va_wsS RX1 74 yX1_millionths wsX1_millionths) := goodIn_app (goodIn_of _ (by decide +kernel)) ggX1_given_X1_millionths
theorem dX1_given_0 : decode cX1_given 0 = .ok (.aload_n 0, 1) := by decide +kernel
theorem dX1_given_1 : decode cX1_given 1 = .ok (.iconst 0, 1) := by decide +kernel
theorem dX1_given_2 : decode cX1_given 2 = .ok (.putfield 21, 3) := by decide +kernel
theorem dX1_given_5 : decode cX1_given 5 = .ok (.aload_n 0, 1) := by decide +kernel
theorem dX1_given_6 : decode cX1_given 6 = .ok (.iload_n 1, 1) := by decide +kernel
theorem dX1_given_7 : decode cX1_given 7 = .ok (.invokevirtual 39, 3) := by decide +kernel
theorem dX1_given_10 : decode cX1_given 10 = .ok (.ifCond .eq 11, 3) := by decide +kernel
theorem dX1_given_13 : decode cX1_given 13 = .ok (.aload_n 0, 1) := by decide +kernel
theorem dX1_given_14 : decode cX1_given 14 = .ok (.iload_n 2, 1) := by decide +kernel
theorem dX1_given_15 : decode cX1_given 15 = .ok (.invokevirtual 39, 3) := by decide +kernel
theorem dX1_given_18 : decode cX1_given 18 = .ok (.ifCond .ne 5, 3) := by decide +kernel
theorem dX1_given_21 : decode cX1_given 21 = .ok (.lconst 0, 1) := by decide +kernel
theorem dX1_given_22 : decode cX1_given 22 = .ok (.lreturn, 1) := by decide +kernel
theorem dX1_given_23 : decode cX1_given 23 = .ok (.lconst 0, 1) := by decide +kernel
theorem dX1_given_24 : decode cX1_given 24 = .ok (.lstore_n 3, 1) := by decide +kernel
theorem dX1_given_25 : decode cX1_given 25 = .ok (.lconst 0, 1) := by decide +kernel
theorem dX1_given_26 : decode cX1_given 26 = .ok (.lstore 5, 2) := by decide +kernel
theorem dX1_given_28 : decode cX1_given 28 = .ok (.iconst 0, 1) := by decide +kernel
theorem dX1_given_29 : decode cX1_given 29 = .ok (.istore 7, 2) := by decide +kernel
theorem dX1_given_31 : decode cX1_given 31 = .ok (.iload 7, 2) := by decide +kernel
theorem dX1_given_33 : decode cX1_given 33 = .ok (.iconst 1, 1) := by decide +kernel
theorem dX1_given_34 : decode cX1_given 34 = .ok (.aload_n 0, 1) := by decide +kernel
theorem dX1_given_35 : decode cX1_given 35 = .ok (.getfield 28, 3) := by decide +kernel
theorem dX1_given_38 : decode cX1_given 38 = .ok (.ishl, 1) := by decide +kernel
theorem dX1_given_39 : decode cX1_given 39 = .ok (.if_icmp .ge 56, 3) := by decide +kernel
theorem dX1_given_42 : decode cX1_given 42 = .ok (.aload_n 0, 1) := by decide +kernel
theorem dX1_given_43 : decode cX1_given 43 = .ok (.iload_n 2, 1) := by decide +kernel
theorem dX1_given_44 : decode cX1_given 44 = .ok (.iload 7, 2) := by decide +kernel
theorem dX1_given_46 : decode cX1_given 46 = .ok (.invokevirtual 42, 3) := by decide +kernel
theorem dX1_given_49 : decode cX1_given 49 = .ok (.ifCond .ne 6, 3) := by decide +kernel
theorem dX1_given_52 : decode cX1_given 52 = .ok (.goto 37, 3) := by decide +kernel
theorem dX1_given_55 : decode cX1_given 55 = .ok (.lload_n 3, 1) := by decide +kernel
theorem dX1_given_56 : decode cX1_given 56 = .ok (.aload_n 0, 1) := by decide +kernel
theorem dX1_given_57 : decode cX1_given 57 = .ok (.iload 7, 2) := by decide +kernel
theorem dX1_given_59 : decode cX1_given 59 = .ok (.invokevirtual 49, 3) := by decide +kernel
theorem dX1_given_62 : decode cX1_given 62 = .ok (.ladd, 1) := by decide +kernel
theorem dX1_given_63 : decode cX1_given 63 = .ok (.lstore_n 3, 1) := by decide +kernel
theorem dX1_given_64 : decode cX1_given 64 = .ok (.lload 5, 2) := by decide +kernel
theorem dX1_given_66 : decode cX1_given 66 = .ok (.aload_n 0, 1) := by decide +kernel
theorem dX1_given_67 : decode cX1_given 67 = .ok (.iload_n 1, 1) := by decide +kernel
theorem dX1_given_68 : decode cX1_given 68 = .ok (.iload 7, 2) := by decide +kernel
theorem dX1_given_70 : decode cX1_given 70 = .ok (.invokevirtual 42, 3) := by decide +kernel
theorem dX1_given_73 : decode cX1_given 73 = .ok (.ifCond .eq 12, 3) := by decide +kernel
theorem dX1_given_76 : decode cX1_given 76 = .ok (.aload_n 0, 1) := by decide +kernel
theorem dX1_given_77 : decode cX1_given 77 = .ok (.iload 7, 2) := by decide +kernel
theorem dX1_given_79 : decode cX1_given 79 = .ok (.invokevirtual 49, 3) := by decide +kernel
theorem dX1_given_82 : decode cX1_given 82 = .ok (.goto 4, 3) := by decide +kernel
theorem dX1_given_85 : decode cX1_given 85 = .ok (.lconst 0, 1) := by decide +kernel
theorem dX1_given_86 : decode cX1_given 86 = .ok (.ladd, 1) := by decide +kernel
theorem dX1_given_87 : decode cX1_given 87 = .ok (.lstore 5, 2) := by decide +kernel
theorem dX1_given_89 : decode cX1_given 89 = .ok (.iinc 7 1, 3) := by decide +kernel
theorem dX1_given_92 : decode cX1_given 92 = .ok (.goto (-61), 3) := by decide +kernel
theorem dX1_given_95 : decode cX1_given 95 = .ok (.aload_n 0, 1) := by decide +kernel
theorem dX1_given_96 : decode cX1_given 96 = .ok (.lload_n 3, 1) := by decide +kernel
theorem dX1_given_97 : decode cX1_given 97 = .ok (.lconst 0, 1) := by decide +kernel
theorem dX1_given_98 : decode cX1_given 98 = .ok (.lcmp, 1) := by decide +kernel
theorem dX1_given_99 : decode cX1_given 99 = .ok (.ifCond .ne 7, 3) := by decide +kernel
theorem dX1_given_102 : decode cX1_given 102 = .ok (.iconst 1, 1) := by decide +kernel
theorem dX1_given_103 : decode cX1_given 103 = .ok (.goto 4, 3) := by decide +kernel
theorem dX1_given_106 : decode cX1_given 106 = .ok (.iconst 0, 1) := by decide +kernel
theorem dX1_given_107 : decode cX1_given 107 = .ok (.putfield 21, 3) := by decide +kernel
theorem dX1_given_110 : decode cX1_given 110 = .ok (.lload_n 3, 1) := by decide +kernel
theorem dX1_given_111 : decode cX1_given 111 = .ok (.lconst 0, 1) := by decide +kernel
theorem dX1_given_112 : decode cX1_given 112 = .ok (.lcmp, 1) := by decide +kernel
theorem dX1_given_113 : decode cX1_given 113 = .ok (.ifCond .ne 7, 3) := by decide +kernel
theorem dX1_given_116 : decode cX1_given 116 = .ok (.lconst 0, 1) := by decide +kernel
theorem dX1_given_117 : decode cX1_given 117 = .ok (.goto 9, 3) := by decide +kernel
theorem dX1_given_120 : decode cX1_given 120 = .ok (.lload 5, 2) := by decide +kernel
theorem dX1_given_122 : decode cX1_given 122 = .ok (.lload_n 3, 1) := by decide +kernel
theorem dX1_given_123 : decode cX1_given 123 = .ok (.invokestatic 74, 3) := by decide +kernel
theorem dX1_given_126 : decode cX1_given 126 = .ok (.lreturn, 1) := by decide +kernel
set_option maxRecDepth 20000 in
theorem ggX1_influence_X1_isQuestion : GoodIn wsX1_influence wsX1_isQuestion := goodIn_r _ [9, 10, 35, 36, 37, 38, 39, 40, 41] (by decide +kernel) (by decide +kernel)
set_option maxRecDepth 20000 in
theorem gX1_influence_X1_isQuestion : GoodIn wsX1_influence (wsV RX1 39 RX1 yX1_isQuestion wsX1_isQuestion) := goodIn_app (goodIn_of _ (by decide +kernel)) ggX1_influence_X1_isQuestion
set_option maxRecDepth 20000 in
theorem ggX1_influence_X1_sum : GoodIn wsX1_influence wsX1_sum := goodIn_r _ [14, 2, 15, 16, 17, 8, 18, 19, 20, 21, 22, 23, 3, 4, 35, 36, 37, 38, 39, 40, 41] (by decide +kernel) (by decide +kernel)
set_option maxRecDepth 20000 in
theorem gX1_influence_X1_sum : GoodIn wsX1_influence (wsV RX1 57 RX1 yX1_sum wsX1_sum) := goodIn_app (goodIn_of _ (by decide +kernel)) ggX1_influence_X1_sum
set_option maxRecDepth 20000 in
theorem ggX1_influence_X1_all : GoodIn wsX1_influence wsX1_all := goodIn_r _ [27, 2, 4, 35, 36, 37, 38, 39, 40, 41] (by decide +kernel) (by decide +kernel)
set_option maxRecDepth 20000 in
theorem gX1_influence_X1_all : GoodIn wsX1_influence (wsV RX1 60 RX1 yX1_all wsX1_all) := goodIn_app (goodIn_of _ (by decide +kernel)) ggX1_influence_X1_all
set_option maxRecDepth 20000 in
theorem ggX1_influence_X1_part : GoodIn wsX1_influence wsX1_part := goodIn_r _ [31, 32, 33, 8, 34] (by decide +kernel) (by decide +kernel)
set_option maxRecDepth 20000 in
theorem gX1_influence_X1_part : GoodIn wsX1_influence (wsV RX1 64 RX1 yX1_part wsX1_part) := goodIn_app (goodIn_of _ (by decide +kernel)) ggX1_influence_X1_part
theorem dX1_influence_0 : decode cX1_influence 0 = .ok (.aload_n 0, 1) := by decide +kernel
theorem dX1_influence_1 : decode cX1_influence 1 = .ok (.iconst 0, 1) := by decide +kernel
theorem dX1_influence_2 : decode cX1_influence 2 = .ok (.putfield 21, 3) := by decide +kernel
theorem dX1_influence_5 : decode cX1_influence 5 = .ok (.aload_n 0, 1) := by decide +kernel
theorem dX1_influence_6 : decode cX1_influence 6 = .ok (.iload_n 1, 1) := by decide +kernel
theorem dX1_influence_7 : decode cX1_influence 7 = .ok (.invokevirtual 39, 3) := by decide +kernel
theorem dX1_influence_10 : decode cX1_influence 10 = .ok (.ifCond .eq 24, 3) := by decide +kernel
theorem dX1_influence_13 : decode cX1_influence 13 = .ok (.iload_n 2, 1) := by decide +kernel
theorem dX1_influence_14 : decode cX1_influence 14 = .ok (.ifCond .lt 20, 3) := by decide +kernel
theorem dX1_influence_17 : decode cX1_influence 17 = .ok (.iload_n 2, 1) := by decide +kernel
theorem dX1_influence_18 : decode cX1_influence 18 = .ok (.aload_n 0, 1) := by decide +kernel
theorem dX1_influence_19 : decode cX1_influence 19 = .ok (.getfield 28, 3) := by decide +kernel
theorem dX1_influence_22 : decode cX1_influence 22 = .ok (.if_icmp .ge 12, 3) := by decide +kernel
theorem dX1_influence_25 : decode cX1_influence 25 = .ok (.iload_n 3, 1) := by decide +kernel
theorem dX1_influence_26 : decode cX1_influence 26 = .ok (.ifCond .lt 8, 3) := by decide +kernel
theorem dX1_influence_29 : decode cX1_influence 29 = .ok (.iload_n 3, 1) := by decide +kernel
theorem dX1_influence_30 : decode cX1_influence 30 = .ok (.iconst 1, 1) := by decide +kernel
theorem dX1_influence_31 : decode cX1_influence 31 = .ok (.if_icmp .le 5, 3) := by decide +kernel
theorem dX1_influence_34 : decode cX1_influence 34 = .ok (.lconst 0, 1) := by decide +kernel
theorem dX1_influence_35 : decode cX1_influence 35 = .ok (.lreturn, 1) := by decide +kernel
theorem dX1_influence_36 : decode cX1_influence 36 = .ok (.aload_n 0, 1) := by decide +kernel
theorem dX1_influence_37 : decode cX1_influence 37 = .ok (.getfield 7, 3) := by decide +kernel
theorem dX1_influence_40 : decode cX1_influence 40 = .ok (.iload_n 2, 1) := by decide +kernel
theorem dX1_influence_41 : decode cX1_influence 41 = .ok (.iaload, 1) := by decide +kernel
theorem dX1_influence_42 : decode cX1_influence 42 = .ok (.istore 4, 2) := by decide +kernel
theorem dX1_influence_44 : decode cX1_influence 44 = .ok (.aload_n 0, 1) := by decide +kernel
theorem dX1_influence_45 : decode cX1_influence 45 = .ok (.getfield 13, 3) := by decide +kernel
theorem dX1_influence_48 : decode cX1_influence 48 = .ok (.iload_n 2, 1) := by decide +kernel
theorem dX1_influence_49 : decode cX1_influence 49 = .ok (.iaload, 1) := by decide +kernel
theorem dX1_influence_50 : decode cX1_influence 50 = .ok (.istore 5, 2) := by decide +kernel
theorem dX1_influence_52 : decode cX1_influence 52 = .ok (.aload_n 0, 1) := by decide +kernel
theorem dX1_influence_53 : decode cX1_influence 53 = .ok (.getfield 7, 3) := by decide +kernel
theorem dX1_influence_56 : decode cX1_influence 56 = .ok (.iload_n 2, 1) := by decide +kernel
theorem dX1_influence_57 : decode cX1_influence 57 = .ok (.iconst 1, 1) := by decide +kernel
theorem dX1_influence_58 : decode cX1_influence 58 = .ok (.iastore, 1) := by decide +kernel
theorem dX1_influence_59 : decode cX1_influence 59 = .ok (.aload_n 0, 1) := by decide +kernel
theorem dX1_influence_60 : decode cX1_influence 60 = .ok (.getfield 13, 3) := by decide +kernel
theorem dX1_influence_63 : decode cX1_influence 63 = .ok (.iload_n 2, 1) := by decide +kernel
theorem dX1_influence_64 : decode cX1_influence 64 = .ok (.iconst 1, 1) := by decide +kernel
theorem dX1_influence_65 : decode cX1_influence 65 = .ok (.iastore, 1) := by decide +kernel
theorem dX1_influence_66 : decode cX1_influence 66 = .ok (.aload_n 0, 1) := by decide +kernel
theorem dX1_influence_67 : decode cX1_influence 67 = .ok (.iload_n 1, 1) := by decide +kernel
theorem dX1_influence_68 : decode cX1_influence 68 = .ok (.invokevirtual 57, 3) := by decide +kernel
theorem dX1_influence_71 : decode cX1_influence 71 = .ok (.lstore 6, 2) := by decide +kernel
theorem dX1_influence_73 : decode cX1_influence 73 = .ok (.aload_n 0, 1) := by decide +kernel
theorem dX1_influence_74 : decode cX1_influence 74 = .ok (.invokevirtual 60, 3) := by decide +kernel
theorem dX1_influence_77 : decode cX1_influence 77 = .ok (.lstore 8, 2) := by decide +kernel
theorem dX1_influence_79 : decode cX1_influence 79 = .ok (.aload_n 0, 1) := by decide +kernel
theorem dX1_influence_80 : decode cX1_influence 80 = .ok (.getfield 7, 3) := by decide +kernel
theorem dX1_influence_83 : decode cX1_influence 83 = .ok (.iload_n 2, 1) := by decide +kernel
theorem dX1_influence_84 : decode cX1_influence 84 = .ok (.iconst 0, 1) := by decide +kernel
theorem dX1_influence_85 : decode cX1_influence 85 = .ok (.iastore, 1) := by decide +kernel
theorem dX1_influence_86 : decode cX1_influence 86 = .ok (.aload_n 0, 1) := by decide +kernel
theorem dX1_influence_87 : decode cX1_influence 87 = .ok (.iload_n 1, 1) := by decide +kernel
theorem dX1_influence_88 : decode cX1_influence 88 = .ok (.invokevirtual 57, 3) := by decide +kernel
theorem dX1_influence_91 : decode cX1_influence 91 = .ok (.lstore 10, 2) := by decide +kernel
theorem dX1_influence_93 : decode cX1_influence 93 = .ok (.aload_n 0, 1) := by decide +kernel
theorem dX1_influence_94 : decode cX1_influence 94 = .ok (.getfield 7, 3) := by decide +kernel
theorem dX1_influence_97 : decode cX1_influence 97 = .ok (.iload_n 2, 1) := by decide +kernel
theorem dX1_influence_98 : decode cX1_influence 98 = .ok (.iload 4, 2) := by decide +kernel
theorem dX1_influence_100 : decode cX1_influence 100 = .ok (.iastore, 1) := by decide +kernel
theorem dX1_influence_101 : decode cX1_influence 101 = .ok (.aload_n 0, 1) := by decide +kernel
theorem dX1_influence_102 : decode cX1_influence 102 = .ok (.getfield 13, 3) := by decide +kernel
theorem dX1_influence_105 : decode cX1_influence 105 = .ok (.iload_n 2, 1) := by decide +kernel
theorem dX1_influence_106 : decode cX1_influence 106 = .ok (.iload 5, 2) := by decide +kernel
theorem dX1_influence_108 : decode cX1_influence 108 = .ok (.iastore, 1) := by decide +kernel
theorem dX1_influence_109 : decode cX1_influence 109 = .ok (.aload_n 0, 1) := by decide +kernel
theorem dX1_influence_110 : decode cX1_influence 110 = .ok (.lload 6, 2) := by decide +kernel
theorem dX1_influence_112 : decode cX1_influence 112 = .ok (.lload 10, 2) := by decide +kernel
theorem dX1_influence_114 : decode cX1_influence 114 = .ok (.lsub, 1) := by decide +kernel
theorem dX1_influence_115 : decode cX1_influence 115 = .ok (.lload 8, 2) := by decide +kernel
theorem dX1_influence_117 : decode cX1_influence 117 = .ok (.iload_n 3, 1) := by decide +kernel
theorem dX1_influence_118 : decode cX1_influence 118 = .ok (.invokevirtual 64, 3) := by decide +kernel
theorem dX1_influence_121 : decode cX1_influence 121 = .ok (.lreturn, 1) := by decide +kernel
set_option maxRecDepth 20000 in
theorem ggX1_hangs_X1_isQuestion : GoodIn wsX1_hangs wsX1_isQuestion := goodIn_r _ [7, 8, 14, 15, 16, 17, 18, 19, 20] (by decide +kernel) (by decide +kernel)
set_option maxRecDepth 20000 in
theorem gX1_hangs_X1_isQuestion : GoodIn wsX1_hangs (wsV RX1 39 RX1 yX1_isQuestion wsX1_isQuestion) := goodIn_app (goodIn_of _ (by decide +kernel)) ggX1_hangs_X1_isQuestion
set_option maxRecDepth 20000 in
theorem ggX1_hangs_X1_isTrue : GoodIn wsX1_hangs wsX1_isTrue := goodIn_r _ [12, 13, 14, 15, 16, 17, 18, 19, 20] (by decide +kernel) (by decide +kernel)
set_option maxRecDepth 20000 in
theorem gX1_hangs_X1_isTrue : GoodIn wsX1_hangs (wsV RX1 42 RX1 yX1_isTrue wsX1_isTrue) := goodIn_app (goodIn_of _ (by decide +kernel)) ggX1_hangs_X1_isTrue
theorem dX1_hangs_0 : decode cX1_hangs 0 = .ok (.aload_n 0, 1) := by decide +kernel
theorem dX1_hangs_1 : decode cX1_hangs 1 = .ok (.iconst 0, 1) := by decide +kernel
theorem dX1_hangs_2 : decode cX1_hangs 2 = .ok (.putfield 21, 3) := by decide +kernel
theorem dX1_hangs_5 : decode cX1_hangs 5 = .ok (.aload_n 0, 1) := by decide +kernel
theorem dX1_hangs_6 : decode cX1_hangs 6 = .ok (.iload_n 1, 1) := by decide +kernel
theorem dX1_hangs_7 : decode cX1_hangs 7 = .ok (.invokevirtual 39, 3) := by decide +kernel
theorem dX1_hangs_10 : decode cX1_hangs 10 = .ok (.ifCond .ne 5, 3) := by decide +kernel
theorem dX1_hangs_13 : decode cX1_hangs 13 = .ok (.iconst (-1), 1) := by decide +kernel
theorem dX1_hangs_14 : decode cX1_hangs 14 = .ok (.ireturn, 1) := by decide +kernel
theorem dX1_hangs_15 : decode cX1_hangs 15 = .ok (.iconst 0, 1) := by decide +kernel
theorem dX1_hangs_16 : decode cX1_hangs 16 = .ok (.istore_n 2, 1) := by decide +kernel
theorem dX1_hangs_17 : decode cX1_hangs 17 = .ok (.iconst 0, 1) := by decide +kernel
theorem dX1_hangs_18 : decode cX1_hangs 18 = .ok (.istore_n 3, 1) := by decide +kernel
theorem dX1_hangs_19 : decode cX1_hangs 19 = .ok (.iload_n 3, 1) := by decide +kernel
theorem dX1_hangs_20 : decode cX1_hangs 20 = .ok (.aload_n 0, 1) := by decide +kernel
theorem dX1_hangs_21 : decode cX1_hangs 21 = .ok (.getfield 28, 3) := by decide +kernel
theorem dX1_hangs_24 : decode cX1_hangs 24 = .ok (.if_icmp .ge 60, 3) := by decide +kernel
theorem dX1_hangs_27 : decode cX1_hangs 27 = .ok (.iconst 0, 1) := by decide +kernel
theorem dX1_hangs_28 : decode cX1_hangs 28 = .ok (.istore 4, 2) := by decide +kernel
theorem dX1_hangs_30 : decode cX1_hangs 30 = .ok (.iload 4, 2) := by decide +kernel
theorem dX1_hangs_32 : decode cX1_hangs 32 = .ok (.iconst 1, 1) := by decide +kernel
theorem dX1_hangs_33 : decode cX1_hangs 33 = .ok (.aload_n 0, 1) := by decide +kernel
theorem dX1_hangs_34 : decode cX1_hangs 34 = .ok (.getfield 28, 3) := by decide +kernel
theorem dX1_hangs_37 : decode cX1_hangs 37 = .ok (.ishl, 1) := by decide +kernel
theorem dX1_hangs_38 : decode cX1_hangs 38 = .ok (.if_icmp .ge 40, 3) := by decide +kernel
theorem dX1_hangs_41 : decode cX1_hangs 41 = .ok (.iload_n 2, 1) := by decide +kernel
theorem dX1_hangs_42 : decode cX1_hangs 42 = .ok (.aload_n 0, 1) := by decide +kernel
theorem dX1_hangs_43 : decode cX1_hangs 43 = .ok (.iload_n 1, 1) := by decide +kernel
theorem dX1_hangs_44 : decode cX1_hangs 44 = .ok (.iload 4, 2) := by decide +kernel
theorem dX1_hangs_46 : decode cX1_hangs 46 = .ok (.invokevirtual 42, 3) := by decide +kernel
theorem dX1_hangs_49 : decode cX1_hangs 49 = .ok (.aload_n 0, 1) := by decide +kernel
theorem dX1_hangs_50 : decode cX1_hangs 50 = .ok (.iload_n 1, 1) := by decide +kernel
theorem dX1_hangs_51 : decode cX1_hangs 51 = .ok (.iload 4, 2) := by decide +kernel
theorem dX1_hangs_53 : decode cX1_hangs 53 = .ok (.iconst 1, 1) := by decide +kernel
theorem dX1_hangs_54 : decode cX1_hangs 54 = .ok (.iload_n 3, 1) := by decide +kernel
theorem dX1_hangs_55 : decode cX1_hangs 55 = .ok (.ishl, 1) := by decide +kernel
theorem dX1_hangs_56 : decode cX1_hangs 56 = .ok (.ixor, 1) := by decide +kernel
theorem dX1_hangs_57 : decode cX1_hangs 57 = .ok (.invokevirtual 42, 3) := by decide +kernel
theorem dX1_hangs_60 : decode cX1_hangs 60 = .ok (.if_icmp .eq 9, 3) := by decide +kernel
theorem dX1_hangs_63 : decode cX1_hangs 63 = .ok (.iconst 1, 1) := by decide +kernel
theorem dX1_hangs_64 : decode cX1_hangs 64 = .ok (.iload_n 3, 1) := by decide +kernel
theorem dX1_hangs_65 : decode cX1_hangs 65 = .ok (.ishl, 1) := by decide +kernel
theorem dX1_hangs_66 : decode cX1_hangs 66 = .ok (.goto 4, 3) := by decide +kernel
theorem dX1_hangs_69 : decode cX1_hangs 69 = .ok (.iconst 0, 1) := by decide +kernel
theorem dX1_hangs_70 : decode cX1_hangs 70 = .ok (.ior, 1) := by decide +kernel
theorem dX1_hangs_71 : decode cX1_hangs 71 = .ok (.istore_n 2, 1) := by decide +kernel
theorem dX1_hangs_72 : decode cX1_hangs 72 = .ok (.iinc 4 1, 3) := by decide +kernel
theorem dX1_hangs_75 : decode cX1_hangs 75 = .ok (.goto (-45), 3) := by decide +kernel
theorem dX1_hangs_78 : decode cX1_hangs 78 = .ok (.iinc 3 1, 3) := by decide +kernel
theorem dX1_hangs_81 : decode cX1_hangs 81 = .ok (.goto (-62), 3) := by decide +kernel
theorem dX1_hangs_84 : decode cX1_hangs 84 = .ok (.iload_n 2, 1) := by decide +kernel
theorem dX1_hangs_85 : decode cX1_hangs 85 = .ok (.ireturn, 1) := by decide +kernel
set_option maxRecDepth 20000 in
theorem ggX1_best_X1_isTrue : GoodIn wsX1_best wsX1_isTrue := goodIn_r _ [6, 7, 14, 15, 16, 17, 18, 19, 20] (by decide +kernel) (by decide +kernel)
set_option maxRecDepth 20000 in
theorem gX1_best_X1_isTrue : GoodIn wsX1_best (wsV RX1 42 RX1 yX1_isTrue wsX1_isTrue) := goodIn_app (goodIn_of _ (by decide +kernel)) ggX1_best_X1_isTrue
set_option maxRecDepth 20000 in
theorem ggX1_best_X1_weigh : GoodIn wsX1_best wsX1_weigh := goodIn_r _ [11, 1, 12, 13, 14, 15, 16, 17, 18, 19, 20] (by decide +kernel) (by decide +kernel)
set_option maxRecDepth 20000 in
theorem gX1_best_X1_weigh : GoodIn wsX1_best (wsV RX1 49 RX1 yX1_weigh wsX1_weigh) := goodIn_app (goodIn_of _ (by decide +kernel)) ggX1_best_X1_weigh
theorem dX1_best_0 : decode cX1_best 0 = .ok (.bipush (-2), 2) := by decide +kernel
theorem dX1_best_2 : decode cX1_best 2 = .ok (.istore_n 2, 1) := by decide +kernel
theorem dX1_best_3 : decode cX1_best 3 = .ok (.iconst 0, 1) := by decide +kernel
theorem dX1_best_4 : decode cX1_best 4 = .ok (.istore_n 3, 1) := by decide +kernel
theorem dX1_best_5 : decode cX1_best 5 = .ok (.iload_n 3, 1) := by decide +kernel
theorem dX1_best_6 : decode cX1_best 6 = .ok (.iconst 1, 1) := by decide +kernel
theorem dX1_best_7 : decode cX1_best 7 = .ok (.aload_n 0, 1) := by decide +kernel
theorem dX1_best_8 : decode cX1_best 8 = .ok (.getfield 28, 3) := by decide +kernel
theorem dX1_best_11 : decode cX1_best 11 = .ok (.ishl, 1) := by decide +kernel
theorem dX1_best_12 : decode cX1_best 12 = .ok (.if_icmp .ge 38, 3) := by decide +kernel
theorem dX1_best_15 : decode cX1_best 15 = .ok (.aload_n 0, 1) := by decide +kernel
theorem dX1_best_16 : decode cX1_best 16 = .ok (.iload_n 1, 1) := by decide +kernel
theorem dX1_best_17 : decode cX1_best 17 = .ok (.iload_n 3, 1) := by decide +kernel
theorem dX1_best_18 : decode cX1_best 18 = .ok (.invokevirtual 42, 3) := by decide +kernel
theorem dX1_best_21 : decode cX1_best 21 = .ok (.ifCond .eq 23, 3) := by decide +kernel
theorem dX1_best_24 : decode cX1_best 24 = .ok (.iload_n 2, 1) := by decide +kernel
theorem dX1_best_25 : decode cX1_best 25 = .ok (.ifCond .lt 17, 3) := by decide +kernel
theorem dX1_best_28 : decode cX1_best 28 = .ok (.aload_n 0, 1) := by decide +kernel
theorem dX1_best_29 : decode cX1_best 29 = .ok (.iload_n 3, 1) := by decide +kernel
theorem dX1_best_30 : decode cX1_best 30 = .ok (.invokevirtual 49, 3) := by decide +kernel
theorem dX1_best_33 : decode cX1_best 33 = .ok (.aload_n 0, 1) := by decide +kernel
theorem dX1_best_34 : decode cX1_best 34 = .ok (.iload_n 2, 1) := by decide +kernel
theorem dX1_best_35 : decode cX1_best 35 = .ok (.invokevirtual 49, 3) := by decide +kernel
theorem dX1_best_38 : decode cX1_best 38 = .ok (.lcmp, 1) := by decide +kernel
theorem dX1_best_39 : decode cX1_best 39 = .ok (.ifCond .le 5, 3) := by decide +kernel
theorem dX1_best_42 : decode cX1_best 42 = .ok (.iload_n 3, 1) := by decide +kernel
theorem dX1_best_43 : decode cX1_best 43 = .ok (.istore_n 2, 1) := by decide +kernel
theorem dX1_best_44 : decode cX1_best 44 = .ok (.iinc 3 1, 3) := by decide +kernel
theorem dX1_best_47 : decode cX1_best 47 = .ok (.goto (-42), 3) := by decide +kernel
theorem dX1_best_50 : decode cX1_best 50 = .ok (.iload_n 2, 1) := by decide +kernel
theorem dX1_best_51 : decode cX1_best 51 = .ok (.ireturn, 1) := by decide +kernel
set_option maxRecDepth 20000 in
theorem ggX1_likeliest_X1_isQuestion : GoodIn wsX1_likeliest wsX1_isQuestion := goodIn_r _ [6, 7, 24, 25, 26, 27, 28, 29, 30] (by decide +kernel) (by decide +kernel)
set_option maxRecDepth 20000 in
theorem gX1_likeliest_X1_isQuestion : GoodIn wsX1_likeliest (wsV RX1 39 RX1 yX1_isQuestion wsX1_isQuestion) := goodIn_app (goodIn_of _ (by decide +kernel)) ggX1_likeliest_X1_isQuestion
set_option maxRecDepth 20000 in
theorem ggX1_likeliest_X1_best : GoodIn wsX1_likeliest wsX1_best := goodIn_r _ [11, 12, 13, 14, 15, 5, 16, 17, 18, 19, 20, 21, 22, 23, 24, 25, 26, 27, 28, 29, 30] (by decide +kernel) (by decide +kernel)
set_option maxRecDepth 20000 in
theorem gX1_likeliest_X1_best : GoodIn wsX1_likeliest (wsV RX1 77 RX1 yX1_best wsX1_best) := goodIn_app (goodIn_of _ (by decide +kernel)) ggX1_likeliest_X1_best
theorem dX1_likeliest_0 : decode cX1_likeliest 0 = .ok (.aload_n 0, 1) := by decide +kernel
theorem dX1_likeliest_1 : decode cX1_likeliest 1 = .ok (.iconst 0, 1) := by decide +kernel
theorem dX1_likeliest_2 : decode cX1_likeliest 2 = .ok (.putfield 21, 3) := by decide +kernel
theorem dX1_likeliest_5 : decode cX1_likeliest 5 = .ok (.aload_n 0, 1) := by decide +kernel
theorem dX1_likeliest_6 : decode cX1_likeliest 6 = .ok (.iload_n 1, 1) := by decide +kernel
theorem dX1_likeliest_7 : decode cX1_likeliest 7 = .ok (.invokevirtual 39, 3) := by decide +kernel
theorem dX1_likeliest_10 : decode cX1_likeliest 10 = .ok (.ifCond .eq 11, 3) := by decide +kernel
theorem dX1_likeliest_13 : decode cX1_likeliest 13 = .ok (.aload_n 0, 1) := by decide +kernel
theorem dX1_likeliest_14 : decode cX1_likeliest 14 = .ok (.iload_n 1, 1) := by decide +kernel
theorem dX1_likeliest_15 : decode cX1_likeliest 15 = .ok (.invokevirtual 77, 3) := by decide +kernel
theorem dX1_likeliest_18 : decode cX1_likeliest 18 = .ok (.goto 4, 3) := by decide +kernel
theorem dX1_likeliest_21 : decode cX1_likeliest 21 = .ok (.iconst (-1), 1) := by decide +kernel
theorem dX1_likeliest_22 : decode cX1_likeliest 22 = .ok (.ireturn, 1) := by decide +kernel
set_option maxRecDepth 20000 in
theorem ggX1_weight_X1_isQuestion : GoodIn wsX1_weight wsX1_isQuestion := goodIn_r _ [6, 7, 24, 25, 26, 27, 28, 29, 30] (by decide +kernel) (by decide +kernel)
set_option maxRecDepth 20000 in
theorem gX1_weight_X1_isQuestion : GoodIn wsX1_weight (wsV RX1 39 RX1 yX1_isQuestion wsX1_isQuestion) := goodIn_app (goodIn_of _ (by decide +kernel)) ggX1_weight_X1_isQuestion
set_option maxRecDepth 20000 in
theorem ggX1_weight_X1_best : GoodIn wsX1_weight wsX1_best := goodIn_r _ [11, 12, 13, 14, 15, 5, 16, 17, 18, 19, 20, 21, 22, 23, 24, 25, 26, 27, 28, 29, 30] (by decide +kernel) (by decide +kernel)
set_option maxRecDepth 20000 in
theorem gX1_weight_X1_best : GoodIn wsX1_weight (wsV RX1 77 RX1 yX1_best wsX1_best) := goodIn_app (goodIn_of _ (by decide +kernel)) ggX1_weight_X1_best
set_option maxRecDepth 20000 in
theorem ggX1_weight_X1_weigh : GoodIn wsX1_weight wsX1_weigh := goodIn_r _ [21, 12, 22, 23, 24, 25, 26, 27, 28, 29, 30] (by decide +kernel) (by decide +kernel)
set_option maxRecDepth 20000 in
theorem gX1_weight_X1_weigh : GoodIn wsX1_weight (wsV RX1 49 RX1 yX1_weigh wsX1_weigh) := goodIn_app (goodIn_of _ (by decide +kernel)) ggX1_weight_X1_weigh
theorem dX1_weight_0 : decode cX1_weight 0 = .ok (.aload_n 0, 1) := by decide +kernel
theorem dX1_weight_1 : decode cX1_weight 1 = .ok (.iconst 0, 1) := by decide +kernel
theorem dX1_weight_2 : decode cX1_weight 2 = .ok (.putfield 21, 3) := by decide +kernel
theorem dX1_weight_5 : decode cX1_weight 5 = .ok (.aload_n 0, 1) := by decide +kernel
theorem dX1_weight_6 : decode cX1_weight 6 = .ok (.iload_n 1, 1) := by decide +kernel
theorem dX1_weight_7 : decode cX1_weight 7 = .ok (.invokevirtual 39, 3) := by decide +kernel
theorem dX1_weight_10 : decode cX1_weight 10 = .ok (.ifCond .eq 11, 3) := by decide +kernel
theorem dX1_weight_13 : decode cX1_weight 13 = .ok (.aload_n 0, 1) := by decide +kernel
theorem dX1_weight_14 : decode cX1_weight 14 = .ok (.iload_n 1, 1) := by decide +kernel
theorem dX1_weight_15 : decode cX1_weight 15 = .ok (.invokevirtual 77, 3) := by decide +kernel
theorem dX1_weight_18 : decode cX1_weight 18 = .ok (.goto 5, 3) := by decide +kernel
theorem dX1_weight_21 : decode cX1_weight 21 = .ok (.bipush (-2), 2) := by decide +kernel
theorem dX1_weight_23 : decode cX1_weight 23 = .ok (.istore_n 2, 1) := by decide +kernel
theorem dX1_weight_24 : decode cX1_weight 24 = .ok (.iload_n 2, 1) := by decide +kernel
theorem dX1_weight_25 : decode cX1_weight 25 = .ok (.ifCond .ge 7, 3) := by decide +kernel
theorem dX1_weight_28 : decode cX1_weight 28 = .ok (.lconst 0, 1) := by decide +kernel
theorem dX1_weight_29 : decode cX1_weight 29 = .ok (.goto 8, 3) := by decide +kernel
theorem dX1_weight_32 : decode cX1_weight 32 = .ok (.aload_n 0, 1) := by decide +kernel
theorem dX1_weight_33 : decode cX1_weight 33 = .ok (.iload_n 2, 1) := by decide +kernel
theorem dX1_weight_34 : decode cX1_weight 34 = .ok (.invokevirtual 49, 3) := by decide +kernel
theorem dX1_weight_37 : decode cX1_weight 37 = .ok (.lreturn, 1) := by decide +kernel
set_option maxRecDepth 20000 in
theorem ggX1_worlds_X1_isQuestion : GoodIn wsX1_worlds wsX1_isQuestion := goodIn_r _ [7, 8, 14, 15, 16, 17, 18, 19, 20] (by decide +kernel) (by decide +kernel)
set_option maxRecDepth 20000 in
theorem gX1_worlds_X1_isQuestion : GoodIn wsX1_worlds (wsV RX1 39 RX1 yX1_isQuestion wsX1_isQuestion) := goodIn_app (goodIn_of _ (by decide +kernel)) ggX1_worlds_X1_isQuestion
set_option maxRecDepth 20000 in
theorem ggX1_worlds_X1_isTrue : GoodIn wsX1_worlds wsX1_isTrue := goodIn_r _ [12, 13, 14, 15, 16, 17, 18, 19, 20] (by decide +kernel) (by decide +kernel)
set_option maxRecDepth 20000 in
theorem gX1_worlds_X1_isTrue : GoodIn wsX1_worlds (wsV RX1 42 RX1 yX1_isTrue wsX1_isTrue) := goodIn_app (goodIn_of _ (by decide +kernel)) ggX1_worlds_X1_isTrue
theorem dX1_worlds_0 : decode cX1_worlds 0 = .ok (.aload_n 0, 1) := by decide +kernel
theorem dX1_worlds_1 : decode cX1_worlds 1 = .ok (.iconst 0, 1) := by decide +kernel
theorem dX1_worlds_2 : decode cX1_worlds 2 = .ok (.putfield 21, 3) := by decide +kernel
theorem dX1_worlds_5 : decode cX1_worlds 5 = .ok (.aload_n 0, 1) := by decide +kernel
theorem dX1_worlds_6 : decode cX1_worlds 6 = .ok (.iload_n 1, 1) := by decide +kernel
theorem dX1_worlds_7 : decode cX1_worlds 7 = .ok (.invokevirtual 39, 3) := by decide +kernel
theorem dX1_worlds_10 : decode cX1_worlds 10 = .ok (.ifCond .ne 5, 3) := by decide +kernel
theorem dX1_worlds_13 : decode cX1_worlds 13 = .ok (.iconst (-1), 1) := by decide +kernel
theorem dX1_worlds_14 : decode cX1_worlds 14 = .ok (.ireturn, 1) := by decide +kernel
theorem dX1_worlds_15 : decode cX1_worlds 15 = .ok (.iconst 0, 1) := by decide +kernel
theorem dX1_worlds_16 : decode cX1_worlds 16 = .ok (.istore_n 2, 1) := by decide +kernel
theorem dX1_worlds_17 : decode cX1_worlds 17 = .ok (.iconst 0, 1) := by decide +kernel
theorem dX1_worlds_18 : decode cX1_worlds 18 = .ok (.istore_n 3, 1) := by decide +kernel
theorem dX1_worlds_19 : decode cX1_worlds 19 = .ok (.iload_n 3, 1) := by decide +kernel
theorem dX1_worlds_20 : decode cX1_worlds 20 = .ok (.iconst 1, 1) := by decide +kernel
theorem dX1_worlds_21 : decode cX1_worlds 21 = .ok (.aload_n 0, 1) := by decide +kernel
theorem dX1_worlds_22 : decode cX1_worlds 22 = .ok (.getfield 28, 3) := by decide +kernel
theorem dX1_worlds_25 : decode cX1_worlds 25 = .ok (.ishl, 1) := by decide +kernel
theorem dX1_worlds_26 : decode cX1_worlds 26 = .ok (.if_icmp .ge 26, 3) := by decide +kernel
theorem dX1_worlds_29 : decode cX1_worlds 29 = .ok (.iload_n 2, 1) := by decide +kernel
theorem dX1_worlds_30 : decode cX1_worlds 30 = .ok (.aload_n 0, 1) := by decide +kernel
theorem dX1_worlds_31 : decode cX1_worlds 31 = .ok (.iload_n 1, 1) := by decide +kernel
theorem dX1_worlds_32 : decode cX1_worlds 32 = .ok (.iload_n 3, 1) := by decide +kernel
theorem dX1_worlds_33 : decode cX1_worlds 33 = .ok (.invokevirtual 42, 3) := by decide +kernel
theorem dX1_worlds_36 : decode cX1_worlds 36 = .ok (.ifCond .eq 7, 3) := by decide +kernel
theorem dX1_worlds_39 : decode cX1_worlds 39 = .ok (.iconst 1, 1) := by decide +kernel
theorem dX1_worlds_40 : decode cX1_worlds 40 = .ok (.goto 4, 3) := by decide +kernel
theorem dX1_worlds_43 : decode cX1_worlds 43 = .ok (.iconst 0, 1) := by decide +kernel
theorem dX1_worlds_44 : decode cX1_worlds 44 = .ok (.iadd, 1) := by decide +kernel
theorem dX1_worlds_45 : decode cX1_worlds 45 = .ok (.istore_n 2, 1) := by decide +kernel
theorem dX1_worlds_46 : decode cX1_worlds 46 = .ok (.iinc 3 1, 3) := by decide +kernel
theorem dX1_worlds_49 : decode cX1_worlds 49 = .ok (.goto (-30), 3) := by decide +kernel
theorem dX1_worlds_52 : decode cX1_worlds 52 = .ok (.iload_n 2, 1) := by decide +kernel
theorem dX1_worlds_53 : decode cX1_worlds 53 = .ok (.ireturn, 1) := by decide +kernel
set_option maxRecDepth 20000 in
theorem ggX1_same_X1_isQuestion : GoodIn wsX1_same wsX1_isQuestion := goodIn_r _ [7, 8, 14, 15, 16, 17, 18, 19, 20] (by decide +kernel) (by decide +kernel)
set_option maxRecDepth 20000 in
theorem gX1_same_X1_isQuestion : GoodIn wsX1_same (wsV RX1 39 RX1 yX1_isQuestion wsX1_isQuestion) := goodIn_app (goodIn_of _ (by decide +kernel)) ggX1_same_X1_isQuestion
set_option maxRecDepth 20000 in
theorem ggX1_same_X1_isTrue : GoodIn wsX1_same wsX1_isTrue := goodIn_r _ [12, 13, 14, 15, 16, 17, 18, 19, 20] (by decide +kernel) (by decide +kernel)
set_option maxRecDepth 20000 in
theorem gX1_same_X1_isTrue : GoodIn wsX1_same (wsV RX1 42 RX1 yX1_isTrue wsX1_isTrue) := goodIn_app (goodIn_of _ (by decide +kernel)) ggX1_same_X1_isTrue
theorem dX1_same_0 : decode cX1_same 0 = .ok (.aload_n 0, 1) := by decide +kernel
theorem dX1_same_1 : decode cX1_same 1 = .ok (.iconst 0, 1) := by decide +kernel
theorem dX1_same_2 : decode cX1_same 2 = .ok (.putfield 21, 3) := by decide +kernel
theorem dX1_same_5 : decode cX1_same 5 = .ok (.aload_n 0, 1) := by decide +kernel
theorem dX1_same_6 : decode cX1_same 6 = .ok (.iload_n 1, 1) := by decide +kernel
theorem dX1_same_7 : decode cX1_same 7 = .ok (.invokevirtual 39, 3) := by decide +kernel
theorem dX1_same_10 : decode cX1_same 10 = .ok (.ifCond .eq 11, 3) := by decide +kernel
theorem dX1_same_13 : decode cX1_same 13 = .ok (.aload_n 0, 1) := by decide +kernel
theorem dX1_same_14 : decode cX1_same 14 = .ok (.iload_n 2, 1) := by decide +kernel
theorem dX1_same_15 : decode cX1_same 15 = .ok (.invokevirtual 39, 3) := by decide +kernel
theorem dX1_same_18 : decode cX1_same 18 = .ok (.ifCond .ne 5, 3) := by decide +kernel
theorem dX1_same_21 : decode cX1_same 21 = .ok (.iconst (-1), 1) := by decide +kernel
theorem dX1_same_22 : decode cX1_same 22 = .ok (.ireturn, 1) := by decide +kernel
theorem dX1_same_23 : decode cX1_same 23 = .ok (.iconst 0, 1) := by decide +kernel
theorem dX1_same_24 : decode cX1_same 24 = .ok (.istore_n 3, 1) := by decide +kernel
theorem dX1_same_25 : decode cX1_same 25 = .ok (.iload_n 3, 1) := by decide +kernel
theorem dX1_same_26 : decode cX1_same 26 = .ok (.iconst 1, 1) := by decide +kernel
theorem dX1_same_27 : decode cX1_same 27 = .ok (.aload_n 0, 1) := by decide +kernel
theorem dX1_same_28 : decode cX1_same 28 = .ok (.getfield 28, 3) := by decide +kernel
theorem dX1_same_31 : decode cX1_same 31 = .ok (.ishl, 1) := by decide +kernel
theorem dX1_same_32 : decode cX1_same 32 = .ok (.if_icmp .ge 26, 3) := by decide +kernel
theorem dX1_same_35 : decode cX1_same 35 = .ok (.aload_n 0, 1) := by decide +kernel
theorem dX1_same_36 : decode cX1_same 36 = .ok (.iload_n 1, 1) := by decide +kernel
theorem dX1_same_37 : decode cX1_same 37 = .ok (.iload_n 3, 1) := by decide +kernel
theorem dX1_same_38 : decode cX1_same 38 = .ok (.invokevirtual 42, 3) := by decide +kernel
theorem dX1_same_41 : decode cX1_same 41 = .ok (.aload_n 0, 1) := by decide +kernel
theorem dX1_same_42 : decode cX1_same 42 = .ok (.iload_n 2, 1) := by decide +kernel
theorem dX1_same_43 : decode cX1_same 43 = .ok (.iload_n 3, 1) := by decide +kernel
theorem dX1_same_44 : decode cX1_same 44 = .ok (.invokevirtual 42, 3) := by decide +kernel
theorem dX1_same_47 : decode cX1_same 47 = .ok (.if_icmp .eq 5, 3) := by decide +kernel
theorem dX1_same_50 : decode cX1_same 50 = .ok (.iconst 0, 1) := by decide +kernel
theorem dX1_same_51 : decode cX1_same 51 = .ok (.ireturn, 1) := by decide +kernel
theorem dX1_same_52 : decode cX1_same 52 = .ok (.iinc 3 1, 3) := by decide +kernel
theorem dX1_same_55 : decode cX1_same 55 = .ok (.goto (-30), 3) := by decide +kernel
theorem dX1_same_58 : decode cX1_same 58 = .ok (.iconst 1, 1) := by decide +kernel
theorem dX1_same_59 : decode cX1_same 59 = .ok (.ireturn, 1) := by decide +kernel
theorem dX1_draw_0 : decode cX1_draw 0 = .ok (.iconst 0, 1) := by decide +kernel
theorem dX1_draw_1 : decode cX1_draw 1 = .ok (.istore_n 1, 1) := by decide +kernel
theorem dX1_draw_2 : decode cX1_draw 2 = .ok (.iconst 0, 1) := by decide +kernel
theorem dX1_draw_3 : decode cX1_draw 3 = .ok (.istore_n 2, 1) := by decide +kernel
theorem dX1_draw_4 : decode cX1_draw 4 = .ok (.iload_n 2, 1) := by decide +kernel
theorem dX1_draw_5 : decode cX1_draw 5 = .ok (.aload_n 0, 1) := by decide +kernel
theorem dX1_draw_6 : decode cX1_draw 6 = .ok (.getfield 28, 3) := by decide +kernel
theorem dX1_draw_9 : decode cX1_draw 9 = .ok (.if_icmp .ge 63, 3) := by decide +kernel
theorem dX1_draw_12 : decode cX1_draw 12 = .ok (.aload_n 0, 1) := by decide +kernel
theorem dX1_draw_13 : decode cX1_draw 13 = .ok (.aload_n 0, 1) := by decide +kernel
theorem dX1_draw_14 : decode cX1_draw 14 = .ok (.getfield 80, 3) := by decide +kernel
theorem dX1_draw_17 : decode cX1_draw 17 = .ok (.ldc2_w 84, 3) := by decide +kernel
theorem dX1_draw_20 : decode cX1_draw 20 = .ok (.lmul, 1) := by decide +kernel
theorem dX1_draw_21 : decode cX1_draw 21 = .ok (.ldc2_w 86, 3) := by decide +kernel
theorem dX1_draw_24 : decode cX1_draw 24 = .ok (.ladd, 1) := by decide +kernel
theorem dX1_draw_25 : decode cX1_draw 25 = .ok (.ldc2_w 88, 3) := by decide +kernel
theorem dX1_draw_28 : decode cX1_draw 28 = .ok (.land, 1) := by decide +kernel
theorem dX1_draw_29 : decode cX1_draw 29 = .ok (.putfield 80, 3) := by decide +kernel
theorem dX1_draw_32 : decode cX1_draw 32 = .ok (.aload_n 0, 1) := by decide +kernel
theorem dX1_draw_33 : decode cX1_draw 33 = .ok (.getfield 80, 3) := by decide +kernel
theorem dX1_draw_36 : decode cX1_draw 36 = .ok (.bipush 17, 2) := by decide +kernel
theorem dX1_draw_38 : decode cX1_draw 38 = .ok (.lshr, 1) := by decide +kernel
theorem dX1_draw_39 : decode cX1_draw 39 = .ok (.lstore_n 3, 1) := by decide +kernel
theorem dX1_draw_40 : decode cX1_draw 40 = .ok (.lload_n 3, 1) := by decide +kernel
theorem dX1_draw_41 : decode cX1_draw 41 = .ok (.aload_n 0, 1) := by decide +kernel
theorem dX1_draw_42 : decode cX1_draw 42 = .ok (.getfield 13, 3) := by decide +kernel
theorem dX1_draw_45 : decode cX1_draw 45 = .ok (.iload_n 2, 1) := by decide +kernel
theorem dX1_draw_46 : decode cX1_draw 46 = .ok (.iaload, 1) := by decide +kernel
theorem dX1_draw_47 : decode cX1_draw 47 = .ok (.i2l, 1) := by decide +kernel
theorem dX1_draw_48 : decode cX1_draw 48 = .ok (.lrem, 1) := by decide +kernel
theorem dX1_draw_49 : decode cX1_draw 49 = .ok (.aload_n 0, 1) := by decide +kernel
theorem dX1_draw_50 : decode cX1_draw 50 = .ok (.getfield 7, 3) := by decide +kernel
theorem dX1_draw_53 : decode cX1_draw 53 = .ok (.iload_n 2, 1) := by decide +kernel
theorem dX1_draw_54 : decode cX1_draw 54 = .ok (.iaload, 1) := by decide +kernel
theorem dX1_draw_55 : decode cX1_draw 55 = .ok (.i2l, 1) := by decide +kernel
theorem dX1_draw_56 : decode cX1_draw 56 = .ok (.lcmp, 1) := by decide +kernel
theorem dX1_draw_57 : decode cX1_draw 57 = .ok (.ifCond .ge 9, 3) := by decide +kernel
theorem dX1_draw_60 : decode cX1_draw 60 = .ok (.iload_n 1, 1) := by decide +kernel
theorem dX1_draw_61 : decode cX1_draw 61 = .ok (.iconst 1, 1) := by decide +kernel
theorem dX1_draw_62 : decode cX1_draw 62 = .ok (.iload_n 2, 1) := by decide +kernel
theorem dX1_draw_63 : decode cX1_draw 63 = .ok (.ishl, 1) := by decide +kernel
theorem dX1_draw_64 : decode cX1_draw 64 = .ok (.ior, 1) := by decide +kernel
theorem dX1_draw_65 : decode cX1_draw 65 = .ok (.istore_n 1, 1) := by decide +kernel
theorem dX1_draw_66 : decode cX1_draw 66 = .ok (.iinc 2 1, 3) := by decide +kernel
theorem dX1_draw_69 : decode cX1_draw 69 = .ok (.goto (-65), 3) := by decide +kernel
theorem dX1_draw_72 : decode cX1_draw 72 = .ok (.iload_n 1, 1) := by decide +kernel
theorem dX1_draw_73 : decode cX1_draw 73 = .ok (.ireturn, 1) := by decide +kernel
set_option maxRecDepth 20000 in
theorem ggX1_sample_X1_isQuestion : GoodIn wsX1_sample wsX1_isQuestion := goodIn_r _ [8, 9, 24, 25, 26, 27, 28, 29, 30] (by decide +kernel) (by decide +kernel)
set_option maxRecDepth 20000 in
theorem gX1_sample_X1_isQuestion : GoodIn wsX1_sample (wsV RX1 39 RX1 yX1_isQuestion wsX1_isQuestion) := goodIn_app (goodIn_of _ (by decide +kernel)) ggX1_sample_X1_isQuestion
set_option maxRecDepth 20000 in
theorem ggX1_sample_X1_draw : GoodIn wsX1_sample wsX1_draw := goodIn_r _ [13, 14, 3, 15, 16, 2, 17, 18, 24, 25, 26, 27, 28, 29, 30] (by decide +kernel) (by decide +kernel)
set_option maxRecDepth 20000 in
theorem gX1_sample_X1_draw : GoodIn wsX1_sample (wsV RX1 90 RX1 yX1_draw wsX1_draw) := goodIn_app (goodIn_of _ (by decide +kernel)) ggX1_sample_X1_draw
set_option maxRecDepth 20000 in
theorem ggX1_sample_X1_isTrue : GoodIn wsX1_sample wsX1_isTrue := goodIn_r _ [22, 23, 24, 25, 26, 27, 28, 29, 30] (by decide +kernel) (by decide +kernel)
set_option maxRecDepth 20000 in
theorem gX1_sample_X1_isTrue : GoodIn wsX1_sample (wsV RX1 42 RX1 yX1_isTrue wsX1_isTrue) := goodIn_app (goodIn_of _ (by decide +kernel)) ggX1_sample_X1_isTrue
theorem dX1_sample_0 : decode cX1_sample 0 = .ok (.aload_n 0, 1) := by decide +kernel
theorem dX1_sample_1 : decode cX1_sample 1 = .ok (.iconst 0, 1) := by decide +kernel
theorem dX1_sample_2 : decode cX1_sample 2 = .ok (.putfield 21, 3) := by decide +kernel
theorem dX1_sample_5 : decode cX1_sample 5 = .ok (.aload_n 0, 1) := by decide +kernel
theorem dX1_sample_6 : decode cX1_sample 6 = .ok (.iload_n 1, 1) := by decide +kernel
theorem dX1_sample_7 : decode cX1_sample 7 = .ok (.invokevirtual 39, 3) := by decide +kernel
theorem dX1_sample_10 : decode cX1_sample 10 = .ok (.ifCond .eq 16, 3) := by decide +kernel
theorem dX1_sample_13 : decode cX1_sample 13 = .ok (.iload 4, 2) := by decide +kernel
theorem dX1_sample_15 : decode cX1_sample 15 = .ok (.ifCond .lt 11, 3) := by decide +kernel
theorem dX1_sample_18 : decode cX1_sample 18 = .ok (.iload 4, 2) := by decide +kernel
theorem dX1_sample_20 : decode cX1_sample 20 = .ok (.sipush 200, 3) := by decide +kernel
theorem dX1_sample_23 : decode cX1_sample 23 = .ok (.if_icmp .le 5, 3) := by decide +kernel
theorem dX1_sample_26 : decode cX1_sample 26 = .ok (.iconst (-1), 1) := by decide +kernel
theorem dX1_sample_27 : decode cX1_sample 27 = .ok (.ireturn, 1) := by decide +kernel
theorem dX1_sample_28 : decode cX1_sample 28 = .ok (.aload_n 0, 1) := by decide +kernel
theorem dX1_sample_29 : decode cX1_sample 29 = .ok (.lload_n 2, 1) := by decide +kernel
theorem dX1_sample_30 : decode cX1_sample 30 = .ok (.ldc2_w 88, 3) := by decide +kernel
theorem dX1_sample_33 : decode cX1_sample 33 = .ok (.land, 1) := by decide +kernel
theorem dX1_sample_34 : decode cX1_sample 34 = .ok (.putfield 80, 3) := by decide +kernel
theorem dX1_sample_37 : decode cX1_sample 37 = .ok (.iconst 0, 1) := by decide +kernel
theorem dX1_sample_38 : decode cX1_sample 38 = .ok (.istore 5, 2) := by decide +kernel
theorem dX1_sample_40 : decode cX1_sample 40 = .ok (.iconst 0, 1) := by decide +kernel
theorem dX1_sample_41 : decode cX1_sample 41 = .ok (.istore 6, 2) := by decide +kernel
theorem dX1_sample_43 : decode cX1_sample 43 = .ok (.iload 6, 2) := by decide +kernel
theorem dX1_sample_45 : decode cX1_sample 45 = .ok (.iload 4, 2) := by decide +kernel
theorem dX1_sample_47 : decode cX1_sample 47 = .ok (.if_icmp .ge 31, 3) := by decide +kernel
theorem dX1_sample_50 : decode cX1_sample 50 = .ok (.iload 5, 2) := by decide +kernel
theorem dX1_sample_52 : decode cX1_sample 52 = .ok (.aload_n 0, 1) := by decide +kernel
theorem dX1_sample_53 : decode cX1_sample 53 = .ok (.iload_n 1, 1) := by decide +kernel
theorem dX1_sample_54 : decode cX1_sample 54 = .ok (.aload_n 0, 1) := by decide +kernel
theorem dX1_sample_55 : decode cX1_sample 55 = .ok (.invokevirtual 90, 3) := by decide +kernel
theorem dX1_sample_58 : decode cX1_sample 58 = .ok (.invokevirtual 42, 3) := by decide +kernel
theorem dX1_sample_61 : decode cX1_sample 61 = .ok (.ifCond .eq 7, 3) := by decide +kernel
theorem dX1_sample_64 : decode cX1_sample 64 = .ok (.iconst 1, 1) := by decide +kernel
theorem dX1_sample_65 : decode cX1_sample 65 = .ok (.goto 4, 3) := by decide +kernel
theorem dX1_sample_68 : decode cX1_sample 68 = .ok (.iconst 0, 1) := by decide +kernel
theorem dX1_sample_69 : decode cX1_sample 69 = .ok (.iadd, 1) := by decide +kernel
theorem dX1_sample_70 : decode cX1_sample 70 = .ok (.istore 5, 2) := by decide +kernel
theorem dX1_sample_72 : decode cX1_sample 72 = .ok (.iinc 6 1, 3) := by decide +kernel
theorem dX1_sample_75 : decode cX1_sample 75 = .ok (.goto (-32), 3) := by decide +kernel
theorem dX1_sample_78 : decode cX1_sample 78 = .ok (.iload 5, 2) := by decide +kernel
theorem dX1_sample_80 : decode cX1_sample 80 = .ok (.ireturn, 1) := by decide +kernel
theorem dX1_seed_0 : decode cX1_seed 0 = .ok (.aload_n 0, 1) := by decide +kernel
theorem dX1_seed_1 : decode cX1_seed 1 = .ok (.iconst 0, 1) := by decide +kernel
theorem dX1_seed_2 : decode cX1_seed 2 = .ok (.putfield 21, 3) := by decide +kernel
theorem dX1_seed_5 : decode cX1_seed 5 = .ok (.aload_n 0, 1) := by decide +kernel
theorem dX1_seed_6 : decode cX1_seed 6 = .ok (.getfield 80, 3) := by decide +kernel
theorem dX1_seed_9 : decode cX1_seed 9 = .ok (.lreturn, 1) := by decide +kernel
theorem dX1_questions_0 : decode cX1_questions 0 = .ok (.aload_n 0, 1) := by decide +kernel
theorem dX1_questions_1 : decode cX1_questions 1 = .ok (.iconst 0, 1) := by decide +kernel
theorem dX1_questions_2 : decode cX1_questions 2 = .ok (.putfield 21, 3) := by decide +kernel
theorem dX1_questions_5 : decode cX1_questions 5 = .ok (.aload_n 0, 1) := by decide +kernel
theorem dX1_questions_6 : decode cX1_questions 6 = .ok (.getfield 25, 3) := by decide +kernel
theorem dX1_questions_9 : decode cX1_questions 9 = .ok (.ireturn, 1) := by decide +kernel
theorem dJ6_bitCount_0f7a4_0 : decode cJ6_bitCount_0f7a4 0 = .ok (.iload_n 0, 1) := by decide +kernel
theorem dJ6_bitCount_0f7a4_1 : decode cJ6_bitCount_0f7a4 1 = .ok (.iload_n 0, 1) := by decide +kernel
theorem dJ6_bitCount_0f7a4_2 : decode cJ6_bitCount_0f7a4 2 = .ok (.iconst 1, 1) := by decide +kernel
theorem dJ6_bitCount_0f7a4_3 : decode cJ6_bitCount_0f7a4 3 = .ok (.iushr, 1) := by decide +kernel
theorem dJ6_bitCount_0f7a4_4 : decode cJ6_bitCount_0f7a4 4 = .ok (.ldc_w 265, 3) := by decide +kernel
theorem dJ6_bitCount_0f7a4_7 : decode cJ6_bitCount_0f7a4 7 = .ok (.iand, 1) := by decide +kernel
theorem dJ6_bitCount_0f7a4_8 : decode cJ6_bitCount_0f7a4 8 = .ok (.isub, 1) := by decide +kernel
theorem dJ6_bitCount_0f7a4_9 : decode cJ6_bitCount_0f7a4 9 = .ok (.istore_n 0, 1) := by decide +kernel
theorem dJ6_bitCount_0f7a4_10 : decode cJ6_bitCount_0f7a4 10 = .ok (.iload_n 0, 1) := by decide +kernel
theorem dJ6_bitCount_0f7a4_11 : decode cJ6_bitCount_0f7a4 11 = .ok (.ldc_w 266, 3) := by decide +kernel
theorem dJ6_bitCount_0f7a4_14 : decode cJ6_bitCount_0f7a4 14 = .ok (.iand, 1) := by decide +kernel
theorem dJ6_bitCount_0f7a4_15 : decode cJ6_bitCount_0f7a4 15 = .ok (.iload_n 0, 1) := by decide +kernel
theorem dJ6_bitCount_0f7a4_16 : decode cJ6_bitCount_0f7a4 16 = .ok (.iconst 2, 1) := by decide +kernel
theorem dJ6_bitCount_0f7a4_17 : decode cJ6_bitCount_0f7a4 17 = .ok (.iushr, 1) := by decide +kernel
theorem dJ6_bitCount_0f7a4_18 : decode cJ6_bitCount_0f7a4 18 = .ok (.ldc_w 266, 3) := by decide +kernel
theorem dJ6_bitCount_0f7a4_21 : decode cJ6_bitCount_0f7a4 21 = .ok (.iand, 1) := by decide +kernel
theorem dJ6_bitCount_0f7a4_22 : decode cJ6_bitCount_0f7a4 22 = .ok (.iadd, 1) := by decide +kernel
theorem dJ6_bitCount_0f7a4_23 : decode cJ6_bitCount_0f7a4 23 = .ok (.istore_n 0, 1) := by decide +kernel
theorem dJ6_bitCount_0f7a4_24 : decode cJ6_bitCount_0f7a4 24 = .ok (.iload_n 0, 1) := by decide +kernel
theorem dJ6_bitCount_0f7a4_25 : decode cJ6_bitCount_0f7a4 25 = .ok (.iload_n 0, 1) := by decide +kernel
theorem dJ6_bitCount_0f7a4_26 : decode cJ6_bitCount_0f7a4 26 = .ok (.iconst 4, 1) := by decide +kernel
theorem dJ6_bitCount_0f7a4_27 : decode cJ6_bitCount_0f7a4 27 = .ok (.iushr, 1) := by decide +kernel
theorem dJ6_bitCount_0f7a4_28 : decode cJ6_bitCount_0f7a4 28 = .ok (.iadd, 1) := by decide +kernel
theorem dJ6_bitCount_0f7a4_29 : decode cJ6_bitCount_0f7a4 29 = .ok (.ldc_w 267, 3) := by decide +kernel
theorem dJ6_bitCount_0f7a4_32 : decode cJ6_bitCount_0f7a4 32 = .ok (.iand, 1) := by decide +kernel
theorem dJ6_bitCount_0f7a4_33 : decode cJ6_bitCount_0f7a4 33 = .ok (.istore_n 0, 1) := by decide +kernel
theorem dJ6_bitCount_0f7a4_34 : decode cJ6_bitCount_0f7a4 34 = .ok (.iload_n 0, 1) := by decide +kernel
theorem dJ6_bitCount_0f7a4_35 : decode cJ6_bitCount_0f7a4 35 = .ok (.iload_n 0, 1) := by decide +kernel
theorem dJ6_bitCount_0f7a4_36 : decode cJ6_bitCount_0f7a4 36 = .ok (.bipush 8, 2) := by decide +kernel
theorem dJ6_bitCount_0f7a4_38 : decode cJ6_bitCount_0f7a4 38 = .ok (.iushr, 1) := by decide +kernel
theorem dJ6_bitCount_0f7a4_39 : decode cJ6_bitCount_0f7a4 39 = .ok (.iadd, 1) := by decide +kernel
theorem dJ6_bitCount_0f7a4_40 : decode cJ6_bitCount_0f7a4 40 = .ok (.istore_n 0, 1) := by decide +kernel
theorem dJ6_bitCount_0f7a4_41 : decode cJ6_bitCount_0f7a4 41 = .ok (.iload_n 0, 1) := by decide +kernel
theorem dJ6_bitCount_0f7a4_42 : decode cJ6_bitCount_0f7a4 42 = .ok (.iload_n 0, 1) := by decide +kernel
theorem dJ6_bitCount_0f7a4_43 : decode cJ6_bitCount_0f7a4 43 = .ok (.bipush 16, 2) := by decide +kernel
theorem dJ6_bitCount_0f7a4_45 : decode cJ6_bitCount_0f7a4 45 = .ok (.iushr, 1) := by decide +kernel
theorem dJ6_bitCount_0f7a4_46 : decode cJ6_bitCount_0f7a4 46 = .ok (.iadd, 1) := by decide +kernel
theorem dJ6_bitCount_0f7a4_47 : decode cJ6_bitCount_0f7a4 47 = .ok (.istore_n 0, 1) := by decide +kernel
theorem dJ6_bitCount_0f7a4_48 : decode cJ6_bitCount_0f7a4 48 = .ok (.iload_n 0, 1) := by decide +kernel
theorem dJ6_bitCount_0f7a4_49 : decode cJ6_bitCount_0f7a4 49 = .ok (.bipush 63, 2) := by decide +kernel
theorem dJ6_bitCount_0f7a4_51 : decode cJ6_bitCount_0f7a4 51 = .ok (.iand, 1) := by decide +kernel
theorem dJ6_bitCount_0f7a4_52 : decode cJ6_bitCount_0f7a4 52 = .ok (.ireturn, 1) := by decide +kernel
theorem dJ13_bitCount_95d88_0 : decode cJ13_bitCount_95d88 0 = .ok (.lload_n 0, 1) := by decide +kernel
theorem dJ13_bitCount_95d88_1 : decode cJ13_bitCount_95d88 1 = .ok (.lload_n 0, 1) := by decide +kernel
theorem dJ13_bitCount_95d88_2 : decode cJ13_bitCount_95d88 2 = .ok (.iconst 1, 1) := by decide +kernel
theorem dJ13_bitCount_95d88_3 : decode cJ13_bitCount_95d88 3 = .ok (.lushr, 1) := by decide +kernel
theorem dJ13_bitCount_95d88_4 : decode cJ13_bitCount_95d88 4 = .ok (.ldc2_w 314, 3) := by decide +kernel
theorem dJ13_bitCount_95d88_7 : decode cJ13_bitCount_95d88 7 = .ok (.land, 1) := by decide +kernel
theorem dJ13_bitCount_95d88_8 : decode cJ13_bitCount_95d88 8 = .ok (.lsub, 1) := by decide +kernel
theorem dJ13_bitCount_95d88_9 : decode cJ13_bitCount_95d88 9 = .ok (.lstore_n 0, 1) := by decide +kernel
theorem dJ13_bitCount_95d88_10 : decode cJ13_bitCount_95d88 10 = .ok (.lload_n 0, 1) := by decide +kernel
theorem dJ13_bitCount_95d88_11 : decode cJ13_bitCount_95d88 11 = .ok (.ldc2_w 316, 3) := by decide +kernel
theorem dJ13_bitCount_95d88_14 : decode cJ13_bitCount_95d88 14 = .ok (.land, 1) := by decide +kernel
theorem dJ13_bitCount_95d88_15 : decode cJ13_bitCount_95d88 15 = .ok (.lload_n 0, 1) := by decide +kernel
theorem dJ13_bitCount_95d88_16 : decode cJ13_bitCount_95d88 16 = .ok (.iconst 2, 1) := by decide +kernel
theorem dJ13_bitCount_95d88_17 : decode cJ13_bitCount_95d88 17 = .ok (.lushr, 1) := by decide +kernel
theorem dJ13_bitCount_95d88_18 : decode cJ13_bitCount_95d88 18 = .ok (.ldc2_w 316, 3) := by decide +kernel
theorem dJ13_bitCount_95d88_21 : decode cJ13_bitCount_95d88 21 = .ok (.land, 1) := by decide +kernel
theorem dJ13_bitCount_95d88_22 : decode cJ13_bitCount_95d88 22 = .ok (.ladd, 1) := by decide +kernel
theorem dJ13_bitCount_95d88_23 : decode cJ13_bitCount_95d88 23 = .ok (.lstore_n 0, 1) := by decide +kernel
theorem dJ13_bitCount_95d88_24 : decode cJ13_bitCount_95d88 24 = .ok (.lload_n 0, 1) := by decide +kernel
theorem dJ13_bitCount_95d88_25 : decode cJ13_bitCount_95d88 25 = .ok (.lload_n 0, 1) := by decide +kernel
theorem dJ13_bitCount_95d88_26 : decode cJ13_bitCount_95d88 26 = .ok (.iconst 4, 1) := by decide +kernel
theorem dJ13_bitCount_95d88_27 : decode cJ13_bitCount_95d88 27 = .ok (.lushr, 1) := by decide +kernel
theorem dJ13_bitCount_95d88_28 : decode cJ13_bitCount_95d88 28 = .ok (.ladd, 1) := by decide +kernel
theorem dJ13_bitCount_95d88_29 : decode cJ13_bitCount_95d88 29 = .ok (.ldc2_w 318, 3) := by decide +kernel
theorem dJ13_bitCount_95d88_32 : decode cJ13_bitCount_95d88 32 = .ok (.land, 1) := by decide +kernel
theorem dJ13_bitCount_95d88_33 : decode cJ13_bitCount_95d88 33 = .ok (.lstore_n 0, 1) := by decide +kernel
theorem dJ13_bitCount_95d88_34 : decode cJ13_bitCount_95d88 34 = .ok (.lload_n 0, 1) := by decide +kernel
theorem dJ13_bitCount_95d88_35 : decode cJ13_bitCount_95d88 35 = .ok (.lload_n 0, 1) := by decide +kernel
theorem dJ13_bitCount_95d88_36 : decode cJ13_bitCount_95d88 36 = .ok (.bipush 8, 2) := by decide +kernel
theorem dJ13_bitCount_95d88_38 : decode cJ13_bitCount_95d88 38 = .ok (.lushr, 1) := by decide +kernel
theorem dJ13_bitCount_95d88_39 : decode cJ13_bitCount_95d88 39 = .ok (.ladd, 1) := by decide +kernel
theorem dJ13_bitCount_95d88_40 : decode cJ13_bitCount_95d88 40 = .ok (.lstore_n 0, 1) := by decide +kernel
theorem dJ13_bitCount_95d88_41 : decode cJ13_bitCount_95d88 41 = .ok (.lload_n 0, 1) := by decide +kernel
theorem dJ13_bitCount_95d88_42 : decode cJ13_bitCount_95d88 42 = .ok (.lload_n 0, 1) := by decide +kernel
theorem dJ13_bitCount_95d88_43 : decode cJ13_bitCount_95d88 43 = .ok (.bipush 16, 2) := by decide +kernel
theorem dJ13_bitCount_95d88_45 : decode cJ13_bitCount_95d88 45 = .ok (.lushr, 1) := by decide +kernel
theorem dJ13_bitCount_95d88_46 : decode cJ13_bitCount_95d88 46 = .ok (.ladd, 1) := by decide +kernel
theorem dJ13_bitCount_95d88_47 : decode cJ13_bitCount_95d88 47 = .ok (.lstore_n 0, 1) := by decide +kernel
theorem dJ13_bitCount_95d88_48 : decode cJ13_bitCount_95d88 48 = .ok (.lload_n 0, 1) := by decide +kernel
theorem dJ13_bitCount_95d88_49 : decode cJ13_bitCount_95d88 49 = .ok (.lload_n 0, 1) := by decide +kernel
theorem dJ13_bitCount_95d88_50 : decode cJ13_bitCount_95d88 50 = .ok (.bipush 32, 2) := by decide +kernel
theorem dJ13_bitCount_95d88_52 : decode cJ13_bitCount_95d88 52 = .ok (.lushr, 1) := by decide +kernel
theorem dJ13_bitCount_95d88_53 : decode cJ13_bitCount_95d88 53 = .ok (.ladd, 1) := by decide +kernel
theorem dJ13_bitCount_95d88_54 : decode cJ13_bitCount_95d88 54 = .ok (.lstore_n 0, 1) := by decide +kernel
theorem dJ13_bitCount_95d88_55 : decode cJ13_bitCount_95d88 55 = .ok (.lload_n 0, 1) := by decide +kernel
theorem dJ13_bitCount_95d88_56 : decode cJ13_bitCount_95d88 56 = .ok (.l2i, 1) := by decide +kernel
theorem dJ13_bitCount_95d88_57 : decode cJ13_bitCount_95d88 57 = .ok (.bipush 127, 2) := by decide +kernel
theorem dJ13_bitCount_95d88_59 : decode cJ13_bitCount_95d88 59 = .ok (.iand, 1) := by decide +kernel
theorem dJ13_bitCount_95d88_60 : decode cJ13_bitCount_95d88 60 = .ok (.ireturn, 1) := by decide +kernel
set_option maxRecDepth 20000 in
theorem ggL_given_X0_given : GoodIn wsL_given wsX0_given := goodIn_ca (goodIn_r _ [6, 7, 8, 9, 10, 11, 12, 5, 13, 14, 15, 16, 17, 18, 19, 20, 21, 22, 23, 24, 25, 26, 27, 28, 29, 30, 31, 32, 33, 34, 35, 36, 37, 38, 39, 40, 41, 42, 43] (by decide +kernel) (by decide +kernel)) (goodIn_sub (fun _ h => List.mem_cons_of_mem _ (List.mem_append_right _ h)) (by decide +kernel))
set_option maxRecDepth 20000 in
theorem gL_given_X0_given : GoodIn wsL_given (wsV RL 7 RX0 yX0_given wsX0_given) := goodIn_app (goodIn_of _ (by decide +kernel)) ggL_given_X0_given
theorem dL_given_0 : decode cL_given 0 = .ok (.aload_n 3, 1) := by decide +kernel
theorem dL_given_1 : decode cL_given 1 = .ok (.iconst 0, 1) := by decide +kernel
theorem dL_given_2 : decode cL_given 2 = .ok (.aload_n 0, 1) := by decide +kernel
theorem dL_given_3 : decode cL_given 3 = .ok (.iload_n 1, 1) := by decide +kernel
theorem dL_given_4 : decode cL_given 4 = .ok (.iload_n 2, 1) := by decide +kernel
theorem dL_given_5 : decode cL_given 5 = .ok (.invokevirtual 7, 3) := by decide +kernel
theorem dL_given_8 : decode cL_given 8 = .ok (.lastore, 1) := by decide +kernel
theorem dL_given_9 : decode cL_given 9 = .ok (.goto 7, 3) := by decide +kernel
theorem dL_given_12 : decode cL_given 12 = .ok (.astore 4, 2) := by decide +kernel
theorem dL_given_14 : decode cL_given 14 = .ok (.iconst 1, 1) := by decide +kernel
theorem dL_given_15 : decode cL_given 15 = .ok (.ireturn, 1) := by decide +kernel
theorem dL_given_16 : decode cL_given 16 = .ok (.iconst 0, 1) := by decide +kernel
theorem dL_given_17 : decode cL_given 17 = .ok (.ireturn, 1) := by decide +kernel
set_option maxRecDepth 20000 in
theorem ggL_law_X0_init : GoodIn wsL_law wsX0_init := goodIn_r _ [10, 11, 12, 13, 6, 14, 15, 16, 17, 18, 19, 20, 21, 22, 23, 2, 24, 25, 26, 27, 28, 29, 30, 31, 32, 33, 34, 35, 384, 385, 386, 387, 388, 389, 390, 391] (by decide +kernel) (by decide +kernel)
set_option maxRecDepth 20000 in
theorem gL_law_X0_init : GoodIn wsL_law (wsX0_init) := ggL_law_X0_init
set_option maxRecDepth 20000 in
theorem ggL_law_X1_init : GoodIn wsL_law wsX1_init := goodIn_r _ [38, 39, 12, 13, 40, 41, 42, 43, 44, 45, 392, 393, 394, 395, 396, 397, 398] (by decide +kernel) (by decide +kernel)
set_option maxRecDepth 20000 in
theorem gL_law_X1_init : GoodIn wsL_law (wsX1_init) := ggL_law_X1_init
set_option maxRecDepth 20000 in
theorem ggL_law_X0_fact : GoodIn wsL_law wsX0_fact := goodIn_r _ [49, 19, 50, 51, 2, 52, 53, 54, 55, 56, 14, 15, 22, 23, 24, 25, 26, 27, 28, 16, 17, 29, 30, 31, 32, 33, 34, 35, 384, 385, 386, 387, 388, 389, 390, 391] (by decide +kernel) (by decide +kernel)
set_option maxRecDepth 20000 in
theorem gL_law_X0_fact : GoodIn wsL_law (wsV RL 19 RX0 yX0_fact wsX0_fact) := goodIn_app (goodIn_of _ (by decide +kernel)) ggL_law_X0_fact
set_option maxRecDepth 20000 in
theorem ggL_law_X1_fact : GoodIn wsL_law wsX1_fact := goodIn_r _ [60, 61, 62, 41, 42, 63, 64, 5, 65, 392, 393, 394, 395, 396, 397, 398] (by decide +kernel) (by decide +kernel)
set_option maxRecDepth 20000 in
theorem gL_law_X1_fact : GoodIn wsL_law (wsV RL 23 RX1 yX1_fact wsX1_fact) := goodIn_app (goodIn_of _ (by decide +kernel)) ggL_law_X1_fact
set_option maxRecDepth 20000 in
theorem ggL_law_X0_odds : GoodIn wsL_law wsX0_odds := goodIn_r _ [69, 70, 71, 72, 2, 73, 19, 50, 51, 52, 53, 54, 55, 56, 14, 15, 22, 23, 24, 25, 26, 27, 28, 16, 17, 29, 30, 31, 32, 33, 34, 35, 384, 385, 386, 387, 388, 389, 390, 391] (by decide +kernel) (by decide +kernel)
set_option maxRecDepth 20000 in
theorem gL_law_X0_odds : GoodIn wsL_law (wsV RL 24 RX0 yX0_odds wsX0_odds) := goodIn_app (goodIn_of _ (by decide +kernel)) ggL_law_X0_odds
set_option maxRecDepth 20000 in
theorem ggL_law_X1_odds : GoodIn wsL_law wsX1_odds := goodIn_r _ [77, 61, 62, 41, 42, 63, 64, 5, 65, 392, 393, 394, 395, 396, 397, 398] (by decide +kernel) (by decide +kernel)
set_option maxRecDepth 20000 in
theorem gL_law_X1_odds : GoodIn wsL_law (wsV RL 28 RX1 yX1_odds wsX1_odds) := goodIn_app (goodIn_of _ (by decide +kernel)) ggL_law_X1_odds
set_option maxRecDepth 20000 in
theorem ggL_law_X0_set : GoodIn wsL_law wsX0_set := goodIn_r _ [81, 82, 83, 84, 2, 85, 86, 87, 88, 89, 19, 90, 91, 92, 93, 20, 94, 95, 96, 97, 98, 99, 100, 18, 22, 23, 24, 101, 102, 103, 104, 384, 385, 386, 387, 388, 389, 390, 391] (by decide +kernel) (by decide +kernel)
set_option maxRecDepth 20000 in
theorem gL_law_X0_set : GoodIn wsL_law (wsV RL 29 RX0 yX0_set wsX0_set) := goodIn_app (goodIn_of _ (by decide +kernel)) ggL_law_X0_set
set_option maxRecDepth 20000 in
theorem ggL_law_X1_set : GoodIn wsL_law wsX1_set := goodIn_r _ [108, 61, 109, 45, 110, 111, 112, 5, 113, 62, 392, 393, 394, 395, 396, 397, 398] (by decide +kernel) (by decide +kernel)
set_option maxRecDepth 20000 in
theorem gL_law_X1_set : GoodIn wsL_law (wsV RL 32 RX1 yX1_set wsX1_set) := goodIn_app (goodIn_of _ (by decide +kernel)) ggL_law_X1_set
set_option maxRecDepth 20000 in
theorem ggL_law_X0_join : GoodIn wsL_law wsX0_join := goodIn_r _ [117, 118, 119, 120, 2, 121, 20, 90, 91, 92, 93, 122, 123, 124, 125, 18, 33, 34, 35, 126, 127, 128, 129, 97, 98, 99, 100, 22, 23, 24, 101, 102, 103, 104, 384, 385, 386, 387, 388, 389, 390, 391] (by decide +kernel) (by decide +kernel)
set_option maxRecDepth 20000 in
theorem gL_law_X0_join : GoodIn wsL_law (wsV RL 33 RX0 yX0_join wsX0_join) := goodIn_app (goodIn_of _ (by decide +kernel)) ggL_law_X0_join
set_option maxRecDepth 20000 in
theorem ggL_law_X1_join : GoodIn wsL_law wsX1_join := goodIn_r _ [133, 61, 109, 45, 134, 135, 136, 5, 137, 138, 139, 140, 141, 392, 393, 394, 395, 396, 397, 398] (by decide +kernel) (by decide +kernel)
set_option maxRecDepth 20000 in
theorem gL_law_X1_join : GoodIn wsL_law (wsV RL 36 RX1 yX1_join wsX1_join) := goodIn_app (goodIn_of _ (by decide +kernel)) ggL_law_X1_join
set_option maxRecDepth 20000 in
theorem ggL_law_X0_some : GoodIn wsL_law wsX0_some := goodIn_r _ [145, 82, 83, 84, 2, 85, 86, 87, 88, 89, 19, 90, 91, 92, 93, 20, 146, 147, 148, 149, 150, 151, 152, 153, 154, 155, 97, 98, 99, 100, 18, 22, 23, 24, 101, 102, 103, 104, 384, 385, 386, 387, 388, 389, 390, 391] (by decide +kernel) (by decide +kernel)
set_option maxRecDepth 20000 in
theorem gL_law_X0_some : GoodIn wsL_law (wsV RL 37 RX0 yX0_some wsX0_some) := goodIn_app (goodIn_of _ (by decide +kernel)) ggL_law_X0_some
set_option maxRecDepth 20000 in
theorem ggL_law_X1_some : GoodIn wsL_law wsX1_some := goodIn_r _ [159, 61, 109, 45, 110, 111, 112, 5, 113, 62, 160, 161, 162, 392, 393, 394, 395, 396, 397, 398] (by decide +kernel) (by decide +kernel)
set_option maxRecDepth 20000 in
theorem gL_law_X1_some : GoodIn wsL_law (wsV RL 40 RX1 yX1_some wsX1_some) := goodIn_app (goodIn_of _ (by decide +kernel)) ggL_law_X1_some
set_option maxRecDepth 20000 in
theorem ggL_law_X0_holds : GoodIn wsL_law wsX0_holds := goodIn_r _ [166, 118, 119, 120, 2, 121, 20, 86, 87, 88, 89, 19, 167, 168, 169, 170, 122, 123, 124, 125, 18, 33, 34, 35, 171, 172, 173, 384, 385, 386, 387, 388, 389, 390, 391] (by decide +kernel) (by decide +kernel)
set_option maxRecDepth 20000 in
theorem gL_law_X0_holds : GoodIn wsL_law (wsV RL 41 RX0 yX0_holds wsX0_holds) := goodIn_app (goodIn_of _ (by decide +kernel)) ggL_law_X0_holds
set_option maxRecDepth 20000 in
theorem ggL_law_X1_holds : GoodIn wsL_law wsX1_holds := goodIn_r _ [177, 61, 62, 134, 135, 136, 5, 137, 109, 138, 139, 140, 141, 45, 392, 393, 394, 395, 396, 397, 398] (by decide +kernel) (by decide +kernel)
set_option maxRecDepth 20000 in
theorem gL_law_X1_holds : GoodIn wsL_law (wsV RL 44 RX1 yX1_holds wsX1_holds) := goodIn_app (goodIn_of _ (by decide +kernel)) ggL_law_X1_holds
set_option maxRecDepth 20000 in
theorem ggL_law_X0_chance : GoodIn wsL_law wsX0_chance := goodIn_r _ [181, 129, 118, 119, 120, 2, 121, 20, 182, 183, 184, 185, 186, 187, 188, 17, 33, 34, 35, 122, 123, 124, 125, 18, 189, 190, 191, 192, 16, 171, 172, 173, 193, 194, 195, 196, 19, 15, 197, 198, 199, 200, 201, 202, 384, 385, 386, 387, 388, 389, 390, 391] (by decide +kernel) (by decide +kernel)
set_option maxRecDepth 20000 in
theorem gL_law_X0_chance : GoodIn wsL_law (wsV RL 45 RX0 yX0_chance wsX0_chance) := goodIn_app (goodIn_of _ (by decide +kernel)) ggL_law_X0_chance
set_option maxRecDepth 20000 in
theorem ggL_law_X1_chance : GoodIn wsL_law wsX1_chance := goodIn_r _ [206, 61, 207, 134, 135, 136, 5, 137, 109, 208, 209, 210, 211, 62, 138, 139, 140, 141, 45, 212, 213, 214, 215, 41, 42, 216, 217, 218, 219, 220, 221, 222, 223, 224, 225, 226, 392, 393, 394, 395, 396, 397, 398] (by decide +kernel) (by decide +kernel)
set_option maxRecDepth 20000 in
theorem gL_law_X1_chance : GoodIn wsL_law (wsV RL 48 RX1 yX1_chance wsX1_chance) := goodIn_app (goodIn_of _ (by decide +kernel)) ggL_law_X1_chance
set_option maxRecDepth 20000 in
theorem ggL_law_X0_real : GoodIn wsL_law wsX0_real := goodIn_r _ [230, 231, 118, 119, 120, 2, 121, 20, 185, 186, 187, 188, 17, 33, 34, 35, 122, 123, 124, 125, 18, 189, 190, 191, 192, 16, 171, 172, 173, 193, 194, 195, 196, 19, 15, 384, 385, 386, 387, 388, 389, 390, 391] (by decide +kernel) (by decide +kernel)
set_option maxRecDepth 20000 in
theorem gL_law_X0_real : GoodIn wsL_law (wsV RL 49 RX0 yX0_real wsX0_real) := goodIn_app (goodIn_of _ (by decide +kernel)) ggL_law_X0_real
set_option maxRecDepth 20000 in
theorem ggL_law_X1_real : GoodIn wsL_law wsX1_real := goodIn_r _ [235, 61, 236, 134, 135, 136, 5, 137, 109, 208, 209, 210, 211, 62, 138, 139, 140, 141, 45, 212, 213, 214, 215, 41, 42, 216, 217, 218, 219, 220, 221, 222, 223, 224, 225, 226, 392, 393, 394, 395, 396, 397, 398] (by decide +kernel) (by decide +kernel)
set_option maxRecDepth 20000 in
theorem gL_law_X1_real : GoodIn wsL_law (wsV RL 53 RX1 yX1_real wsX1_real) := goodIn_app (goodIn_of _ (by decide +kernel)) ggL_law_X1_real
set_option maxRecDepth 20000 in
theorem ggL_law_L_given : GoodIn wsL_law wsL_given := goodIn_ca (goodIn_r _ [240, 241, 242, 243, 244, 2, 245, 246, 247, 248, 118, 119, 120, 121, 20, 185, 186, 187, 188, 17, 33, 34, 35, 122, 123, 124, 125, 18, 189, 190, 191, 192, 16, 171, 172, 173, 384, 385, 386, 387, 388, 389, 390, 391] (by decide +kernel) (by decide +kernel)) (goodIn_sub (fun _ h => List.mem_append_right _ h) (by decide +kernel))
set_option maxRecDepth 20000 in
theorem gL_law_L_given : GoodIn wsL_law (va_wsS RL 54 yL_given wsL_given) := goodIn_app (goodIn_of _ (by decide +kernel)) ggL_law_L_given
set_option maxRecDepth 20000 in
theorem ggL_law_X1_given : GoodIn wsL_law wsX1_given := goodIn_r _ [252, 61, 62, 134, 135, 136, 5, 137, 109, 138, 139, 140, 141, 45, 212, 213, 214, 215, 41, 42, 253, 254, 255, 256, 392, 393, 394, 395, 396, 397, 398] (by decide +kernel) (by decide +kernel)
set_option maxRecDepth 20000 in
theorem gL_law_X1_given : GoodIn wsL_law (wsV RL 59 RX1 yX1_given wsX1_given) := goodIn_app (goodIn_of _ (by decide +kernel)) ggL_law_X1_given
set_option maxRecDepth 20000 in
theorem ggL_law_X1_thrown : GoodIn wsL_law wsX1_thrown := goodIn_r _ [260, 61, 392, 393, 394, 395, 396, 397, 398] (by decide +kernel) (by decide +kernel)
set_option maxRecDepth 20000 in
theorem gL_law_X1_thrown : GoodIn wsL_law (wsV RL 60 RX1 yX1_thrown wsX1_thrown) := goodIn_app (goodIn_of _ (by decide +kernel)) ggL_law_X1_thrown
set_option maxRecDepth 20000 in
theorem ggL_law_X0_influence : GoodIn wsL_law wsX0_influence := goodIn_r _ [264, 118, 119, 120, 2, 121, 20, 70, 71, 72, 73, 19, 182, 183, 184, 265, 266, 267, 268, 14, 15, 33, 34, 35, 53, 54, 55, 56, 22, 23, 24, 25, 26, 27, 28, 16, 17, 29, 30, 31, 32, 185, 186, 187, 188, 122, 123, 124, 125, 18, 189, 190, 191, 192, 171, 172, 173, 193, 194, 195, 196, 197, 198, 199, 200, 201, 202, 384, 385, 386, 387, 388, 389, 390, 391] (by decide +kernel) (by decide +kernel)
set_option maxRecDepth 20000 in
theorem gL_law_X0_influence : GoodIn wsL_law (wsV RL 64 RX0 yX0_influence wsX0_influence) := goodIn_app (goodIn_of _ (by decide +kernel)) ggL_law_X0_influence
set_option maxRecDepth 20000 in
theorem ggL_law_X1_influence : GoodIn wsL_law wsX1_influence := goodIn_r _ [272, 61, 62, 41, 42, 134, 135, 136, 5, 137, 109, 208, 209, 210, 211, 138, 139, 140, 141, 45, 212, 213, 214, 215, 216, 217, 218, 219, 220, 221, 222, 223, 224, 225, 226, 392, 393, 394, 395, 396, 397, 398] (by decide +kernel) (by decide +kernel)
set_option maxRecDepth 20000 in
theorem gL_law_X1_influence : GoodIn wsL_law (wsV RL 68 RX1 yX1_influence wsX1_influence) := goodIn_app (goodIn_of _ (by decide +kernel)) ggL_law_X1_influence
set_option maxRecDepth 20000 in
theorem ggL_law_X0_hangs : GoodIn wsL_law wsX0_hangs := goodIn_r _ [276, 19, 118, 119, 120, 2, 121, 20, 277, 278, 279, 280, 281, 282, 283, 284, 285, 122, 123, 124, 125, 18, 33, 34, 35, 384, 385, 386, 387, 388, 389, 390, 391] (by decide +kernel) (by decide +kernel)
set_option maxRecDepth 20000 in
theorem gL_law_X0_hangs : GoodIn wsL_law (wsV RL 69 RX0 yX0_hangs wsX0_hangs) := goodIn_app (goodIn_of _ (by decide +kernel)) ggL_law_X0_hangs
set_option maxRecDepth 20000 in
theorem ggL_law_X1_hangs : GoodIn wsL_law wsX1_hangs := goodIn_r _ [289, 61, 62, 134, 135, 136, 5, 137, 109, 138, 139, 140, 141, 45, 392, 393, 394, 395, 396, 397, 398] (by decide +kernel) (by decide +kernel)
set_option maxRecDepth 20000 in
theorem gL_law_X1_hangs : GoodIn wsL_law (wsV RL 73 RX1 yX1_hangs wsX1_hangs) := goodIn_app (goodIn_of _ (by decide +kernel)) ggL_law_X1_hangs
set_option maxRecDepth 20000 in
theorem ggL_law_X0_likeliest : GoodIn wsL_law wsX0_likeliest := goodIn_r _ [293, 118, 119, 120, 2, 121, 20, 294, 295, 296, 297, 129, 19, 167, 168, 169, 170, 122, 123, 124, 125, 18, 33, 34, 35, 171, 172, 173, 298, 299, 300, 301, 16, 17, 384, 385, 386, 387, 388, 389, 390, 391] (by decide +kernel) (by decide +kernel)
set_option maxRecDepth 20000 in
theorem gL_law_X0_likeliest : GoodIn wsL_law (wsV RL 74 RX0 yX0_likeliest wsX0_likeliest) := goodIn_app (goodIn_of _ (by decide +kernel)) ggL_law_X0_likeliest
set_option maxRecDepth 20000 in
theorem ggL_law_X1_likeliest : GoodIn wsL_law wsX1_likeliest := goodIn_r _ [305, 61, 134, 135, 136, 5, 137, 109, 306, 307, 308, 309, 62, 138, 139, 140, 141, 45, 212, 213, 214, 215, 41, 42, 392, 393, 394, 395, 396, 397, 398] (by decide +kernel) (by decide +kernel)
set_option maxRecDepth 20000 in
theorem gL_law_X1_likeliest : GoodIn wsL_law (wsV RL 77 RX1 yX1_likeliest wsX1_likeliest) := goodIn_app (goodIn_of _ (by decide +kernel)) ggL_law_X1_likeliest
set_option maxRecDepth 20000 in
theorem ggL_law_X0_weight : GoodIn wsL_law wsX0_weight := goodIn_r _ [313, 118, 119, 120, 2, 121, 20, 294, 295, 296, 297, 129, 19, 167, 168, 169, 170, 122, 123, 124, 125, 18, 33, 34, 35, 171, 172, 173, 298, 299, 300, 301, 16, 17, 384, 385, 386, 387, 388, 389, 390, 391] (by decide +kernel) (by decide +kernel)
set_option maxRecDepth 20000 in
theorem gL_law_X0_weight : GoodIn wsL_law (wsV RL 78 RX0 yX0_weight wsX0_weight) := goodIn_app (goodIn_of _ (by decide +kernel)) ggL_law_X0_weight
set_option maxRecDepth 20000 in
theorem ggL_law_X1_weight : GoodIn wsL_law wsX1_weight := goodIn_r _ [317, 61, 134, 135, 136, 5, 137, 109, 306, 307, 308, 309, 62, 138, 139, 140, 141, 45, 212, 213, 214, 215, 41, 42, 392, 393, 394, 395, 396, 397, 398] (by decide +kernel) (by decide +kernel)
set_option maxRecDepth 20000 in
theorem gL_law_X1_weight : GoodIn wsL_law (wsV RL 82 RX1 yX1_weight wsX1_weight) := goodIn_app (goodIn_of _ (by decide +kernel)) ggL_law_X1_weight
set_option maxRecDepth 20000 in
theorem ggL_law_X0_worlds : GoodIn wsL_law wsX0_worlds := goodIn_r _ [321, 19, 118, 119, 120, 2, 121, 20, 122, 123, 124, 125, 18, 33, 34, 35, 322, 323, 324, 325, 326, 327, 328, 384, 385, 386, 387, 388, 389, 390, 391] (by decide +kernel) (by decide +kernel)
set_option maxRecDepth 20000 in
theorem gL_law_X0_worlds : GoodIn wsL_law (wsV RL 83 RX0 yX0_worlds wsX0_worlds) := goodIn_app (goodIn_of _ (by decide +kernel)) ggL_law_X0_worlds
set_option maxRecDepth 20000 in
theorem ggL_law_X1_worlds : GoodIn wsL_law wsX1_worlds := goodIn_r _ [332, 61, 62, 134, 135, 136, 5, 137, 109, 138, 139, 140, 141, 45, 392, 393, 394, 395, 396, 397, 398] (by decide +kernel) (by decide +kernel)
set_option maxRecDepth 20000 in
theorem gL_law_X1_worlds : GoodIn wsL_law (wsV RL 86 RX1 yX1_worlds wsX1_worlds) := goodIn_app (goodIn_of _ (by decide +kernel)) ggL_law_X1_worlds
set_option maxRecDepth 20000 in
theorem ggL_law_X0_same : GoodIn wsL_law wsX0_same := goodIn_r _ [336, 118, 119, 120, 2, 121, 20, 122, 123, 124, 125, 18, 33, 34, 35, 384, 385, 386, 387, 388, 389, 390, 391] (by decide +kernel) (by decide +kernel)
set_option maxRecDepth 20000 in
theorem gL_law_X0_same : GoodIn wsL_law (wsV RL 87 RX0 yX0_same wsX0_same) := goodIn_app (goodIn_of _ (by decide +kernel)) ggL_law_X0_same
set_option maxRecDepth 20000 in
theorem ggL_law_X1_same : GoodIn wsL_law wsX1_same := goodIn_r _ [340, 61, 62, 134, 135, 136, 5, 137, 109, 138, 139, 140, 141, 45, 392, 393, 394, 395, 396, 397, 398] (by decide +kernel) (by decide +kernel)
set_option maxRecDepth 20000 in
theorem gL_law_X1_same : GoodIn wsL_law (wsV RL 90 RX1 yX1_same wsX1_same) := goodIn_app (goodIn_of _ (by decide +kernel)) ggL_law_X1_same
set_option maxRecDepth 20000 in
theorem ggL_law_X0_sample : GoodIn wsL_law wsX0_sample := goodIn_r _ [344, 345, 21, 118, 119, 120, 2, 121, 20, 346, 347, 348, 349, 19, 15, 14, 350, 351, 352, 353, 354, 355, 33, 34, 35, 167, 168, 169, 170, 122, 123, 124, 125, 18, 171, 172, 173, 384, 385, 386, 387, 388, 389, 390, 391] (by decide +kernel) (by decide +kernel)
set_option maxRecDepth 20000 in
theorem gL_law_X0_sample : GoodIn wsL_law (wsV RL 93 RX0 yX0_sample wsX0_sample) := goodIn_app (goodIn_of _ (by decide +kernel)) ggL_law_X0_sample
set_option maxRecDepth 20000 in
theorem ggL_law_X1_sample : GoodIn wsL_law wsX1_sample := goodIn_r _ [359, 61, 360, 361, 134, 135, 136, 5, 137, 109, 362, 363, 364, 365, 62, 366, 367, 42, 41, 138, 139, 140, 141, 45, 392, 393, 394, 395, 396, 397, 398] (by decide +kernel) (by decide +kernel)
set_option maxRecDepth 20000 in
theorem gL_law_X1_sample : GoodIn wsL_law (wsV RL 97 RX1 yX1_sample wsX1_sample) := goodIn_app (goodIn_of _ (by decide +kernel)) ggL_law_X1_sample
set_option maxRecDepth 20000 in
theorem ggL_law_X0_seed : GoodIn wsL_law wsX0_seed := goodIn_r _ [371, 21, 384, 385, 386, 387, 388, 389, 390, 391] (by decide +kernel) (by decide +kernel)
set_option maxRecDepth 20000 in
theorem gL_law_X0_seed : GoodIn wsL_law (wsV RL 98 RX0 yX0_seed wsX0_seed) := goodIn_app (goodIn_of _ (by decide +kernel)) ggL_law_X0_seed
set_option maxRecDepth 20000 in
theorem ggL_law_X1_seed : GoodIn wsL_law wsX1_seed := goodIn_r _ [375, 61, 361, 392, 393, 394, 395, 396, 397, 398] (by decide +kernel) (by decide +kernel)
set_option maxRecDepth 20000 in
theorem gL_law_X1_seed : GoodIn wsL_law (wsV RL 102 RX1 yX1_seed wsX1_seed) := goodIn_app (goodIn_of _ (by decide +kernel)) ggL_law_X1_seed
set_option maxRecDepth 20000 in
theorem ggL_law_X0_questions : GoodIn wsL_law wsX0_questions := goodIn_r _ [379, 20, 384, 385, 386, 387, 388, 389, 390, 391] (by decide +kernel) (by decide +kernel)
set_option maxRecDepth 20000 in
theorem gL_law_X0_questions : GoodIn wsL_law (wsV RL 103 RX0 yX0_questions wsX0_questions) := goodIn_app (goodIn_of _ (by decide +kernel)) ggL_law_X0_questions
set_option maxRecDepth 20000 in
theorem ggL_law_X1_questions : GoodIn wsL_law wsX1_questions := goodIn_r _ [383, 61, 109, 392, 393, 394, 395, 396, 397, 398] (by decide +kernel) (by decide +kernel)
set_option maxRecDepth 20000 in
theorem gL_law_X1_questions : GoodIn wsL_law (wsV RL 106 RX1 yX1_questions wsX1_questions) := goodIn_app (goodIn_of _ (by decide +kernel)) ggL_law_X1_questions
theorem dL_law_0 : decode cL_law 0 = .ok (.new 8, 3) := by decide +kernel
theorem dL_law_3 : decode cL_law 3 = .ok (.dup, 1) := by decide +kernel
theorem dL_law_4 : decode cL_law 4 = .ok (.invokespecial 15, 3) := by decide +kernel
theorem dL_law_7 : decode cL_law 7 = .ok (.astore_n 1, 1) := by decide +kernel
theorem dL_law_8 : decode cL_law 8 = .ok (.new 16, 3) := by decide +kernel
theorem dL_law_11 : decode cL_law 11 = .ok (.dup, 1) := by decide +kernel
theorem dL_law_12 : decode cL_law 12 = .ok (.invokespecial 18, 3) := by decide +kernel
theorem dL_law_15 : decode cL_law 15 = .ok (.astore_n 2, 1) := by decide +kernel
theorem dL_law_16 : decode cL_law 16 = .ok (.iconst 1, 1) := by decide +kernel
theorem dL_law_17 : decode cL_law 17 = .ok (.newarray .long, 2) := by decide +kernel
theorem dL_law_19 : decode cL_law 19 = .ok (.astore_n 3, 1) := by decide +kernel
theorem dL_law_20 : decode cL_law 20 = .ok (.iconst 0, 1) := by decide +kernel
theorem dL_law_21 : decode cL_law 21 = .ok (.istore 4, 2) := by decide +kernel
theorem dL_law_23 : decode cL_law 23 = .ok (.iload 4, 2) := by decide +kernel
theorem dL_law_25 : decode cL_law 25 = .ok (.aload_n 0, 1) := by decide +kernel
theorem dL_law_26 : decode cL_law 26 = .ok (.arraylength, 1) := by decide +kernel
theorem dL_law_27 : decode cL_law 27 = .ok (.iconst 5, 1) := by decide +kernel
theorem dL_law_28 : decode cL_law 28 = .ok (.isub, 1) := by decide +kernel
theorem dL_law_29 : decode cL_law 29 = .ok (.if_icmp .gt 813, 3) := by decide +kernel
theorem dL_law_32 : decode cL_law 32 = .ok (.aload_n 0, 1) := by decide +kernel
theorem dL_law_33 : decode cL_law 33 = .ok (.iload 4, 2) := by decide +kernel
theorem dL_law_35 : decode cL_law 35 = .ok (.iaload, 1) := by decide +kernel
theorem dL_law_36 : decode cL_law 36 = .ok (.bipush 31, 2) := by decide +kernel
theorem dL_law_38 : decode cL_law 38 = .ok (.iand, 1) := by decide +kernel
theorem dL_law_39 : decode cL_law 39 = .ok (.tableswitch 797 0 17 #[85, 122, 171, 208, 257, 306, 343, 381, 434, 501, 551, 576, 601, 627, 652, 689, 770, 784], 85) := by decide +kernel
theorem dL_law_124 : decode cL_law 124 = .ok (.aload_n 1, 1) := by decide +kernel
theorem dL_law_125 : decode cL_law 125 = .ok (.aload_n 0, 1) := by decide +kernel
theorem dL_law_126 : decode cL_law 126 = .ok (.iload 4, 2) := by decide +kernel
theorem dL_law_128 : decode cL_law 128 = .ok (.iconst 1, 1) := by decide +kernel
theorem dL_law_129 : decode cL_law 129 = .ok (.iadd, 1) := by decide +kernel
theorem dL_law_130 : decode cL_law 130 = .ok (.iaload, 1) := by decide +kernel
theorem dL_law_131 : decode cL_law 131 = .ok (.aload_n 0, 1) := by decide +kernel
theorem dL_law_132 : decode cL_law 132 = .ok (.iload 4, 2) := by decide +kernel
theorem dL_law_134 : decode cL_law 134 = .ok (.iconst 2, 1) := by decide +kernel
theorem dL_law_135 : decode cL_law 135 = .ok (.iadd, 1) := by decide +kernel
theorem dL_law_136 : decode cL_law 136 = .ok (.iaload, 1) := by decide +kernel
theorem dL_law_137 : decode cL_law 137 = .ok (.invokevirtual 19, 3) := by decide +kernel
theorem dL_law_140 : decode cL_law 140 = .ok (.aload_n 2, 1) := by decide +kernel
theorem dL_law_141 : decode cL_law 141 = .ok (.aload_n 0, 1) := by decide +kernel
theorem dL_law_142 : decode cL_law 142 = .ok (.iload 4, 2) := by decide +kernel
theorem dL_law_144 : decode cL_law 144 = .ok (.iconst 1, 1) := by decide +kernel
theorem dL_law_145 : decode cL_law 145 = .ok (.iadd, 1) := by decide +kernel
theorem dL_law_146 : decode cL_law 146 = .ok (.iaload, 1) := by decide +kernel
theorem dL_law_147 : decode cL_law 147 = .ok (.aload_n 0, 1) := by decide +kernel
theorem dL_law_148 : decode cL_law 148 = .ok (.iload 4, 2) := by decide +kernel
theorem dL_law_150 : decode cL_law 150 = .ok (.iconst 2, 1) := by decide +kernel
theorem dL_law_151 : decode cL_law 151 = .ok (.iadd, 1) := by decide +kernel
theorem dL_law_152 : decode cL_law 152 = .ok (.iaload, 1) := by decide +kernel
theorem dL_law_153 : decode cL_law 153 = .ok (.invokevirtual 23, 3) := by decide +kernel
theorem dL_law_156 : decode cL_law 156 = .ok (.if_icmp .eq 680, 3) := by decide +kernel
theorem dL_law_159 : decode cL_law 159 = .ok (.iconst 0, 1) := by decide +kernel
theorem dL_law_160 : decode cL_law 160 = .ok (.ireturn, 1) := by decide +kernel
theorem dL_law_161 : decode cL_law 161 = .ok (.aload_n 1, 1) := by decide +kernel
theorem dL_law_162 : decode cL_law 162 = .ok (.aload_n 0, 1) := by decide +kernel
theorem dL_law_163 : decode cL_law 163 = .ok (.iload 4, 2) := by decide +kernel
theorem dL_law_165 : decode cL_law 165 = .ok (.iconst 1, 1) := by decide +kernel
theorem dL_law_166 : decode cL_law 166 = .ok (.iadd, 1) := by decide +kernel
theorem dL_law_167 : decode cL_law 167 = .ok (.iaload, 1) := by decide +kernel
theorem dL_law_168 : decode cL_law 168 = .ok (.aload_n 0, 1) := by decide +kernel
theorem dL_law_169 : decode cL_law 169 = .ok (.iload 4, 2) := by decide +kernel
theorem dL_law_171 : decode cL_law 171 = .ok (.iconst 2, 1) := by decide +kernel
theorem dL_law_172 : decode cL_law 172 = .ok (.iadd, 1) := by decide +kernel
theorem dL_law_173 : decode cL_law 173 = .ok (.iaload, 1) := by decide +kernel
theorem dL_law_174 : decode cL_law 174 = .ok (.aload_n 0, 1) := by decide +kernel
theorem dL_law_175 : decode cL_law 175 = .ok (.iload 4, 2) := by decide +kernel
theorem dL_law_177 : decode cL_law 177 = .ok (.iconst 3, 1) := by decide +kernel
theorem dL_law_178 : decode cL_law 178 = .ok (.iadd, 1) := by decide +kernel
theorem dL_law_179 : decode cL_law 179 = .ok (.iaload, 1) := by decide +kernel
theorem dL_law_180 : decode cL_law 180 = .ok (.invokevirtual 24, 3) := by decide +kernel
theorem dL_law_183 : decode cL_law 183 = .ok (.aload_n 2, 1) := by decide +kernel
theorem dL_law_184 : decode cL_law 184 = .ok (.aload_n 0, 1) := by decide +kernel
theorem dL_law_185 : decode cL_law 185 = .ok (.iload 4, 2) := by decide +kernel
theorem dL_law_187 : decode cL_law 187 = .ok (.iconst 1, 1) := by decide +kernel
theorem dL_law_188 : decode cL_law 188 = .ok (.iadd, 1) := by decide +kernel
theorem dL_law_189 : decode cL_law 189 = .ok (.iaload, 1) := by decide +kernel
theorem dL_law_190 : decode cL_law 190 = .ok (.aload_n 0, 1) := by decide +kernel
theorem dL_law_191 : decode cL_law 191 = .ok (.iload 4, 2) := by decide +kernel
theorem dL_law_193 : decode cL_law 193 = .ok (.iconst 2, 1) := by decide +kernel
theorem dL_law_194 : decode cL_law 194 = .ok (.iadd, 1) := by decide +kernel
theorem dL_law_195 : decode cL_law 195 = .ok (.iaload, 1) := by decide +kernel
theorem dL_law_196 : decode cL_law 196 = .ok (.aload_n 0, 1) := by decide +kernel
theorem dL_law_197 : decode cL_law 197 = .ok (.iload 4, 2) := by decide +kernel
theorem dL_law_199 : decode cL_law 199 = .ok (.iconst 3, 1) := by decide +kernel
theorem dL_law_200 : decode cL_law 200 = .ok (.iadd, 1) := by decide +kernel
theorem dL_law_201 : decode cL_law 201 = .ok (.iaload, 1) := by decide +kernel
theorem dL_law_202 : decode cL_law 202 = .ok (.invokevirtual 28, 3) := by decide +kernel
theorem dL_law_205 : decode cL_law 205 = .ok (.if_icmp .eq 631, 3) := by decide +kernel
theorem dL_law_208 : decode cL_law 208 = .ok (.iconst 0, 1) := by decide +kernel
theorem dL_law_209 : decode cL_law 209 = .ok (.ireturn, 1) := by decide +kernel
theorem dL_law_210 : decode cL_law 210 = .ok (.aload_n 1, 1) := by decide +kernel
theorem dL_law_211 : decode cL_law 211 = .ok (.aload_n 0, 1) := by decide +kernel
theorem dL_law_212 : decode cL_law 212 = .ok (.iload 4, 2) := by decide +kernel
theorem dL_law_214 : decode cL_law 214 = .ok (.iconst 1, 1) := by decide +kernel
theorem dL_law_215 : decode cL_law 215 = .ok (.iadd, 1) := by decide +kernel
theorem dL_law_216 : decode cL_law 216 = .ok (.iaload, 1) := by decide +kernel
theorem dL_law_217 : decode cL_law 217 = .ok (.aload_n 0, 1) := by decide +kernel
theorem dL_law_218 : decode cL_law 218 = .ok (.iload 4, 2) := by decide +kernel
theorem dL_law_220 : decode cL_law 220 = .ok (.iconst 2, 1) := by decide +kernel
theorem dL_law_221 : decode cL_law 221 = .ok (.iadd, 1) := by decide +kernel
theorem dL_law_222 : decode cL_law 222 = .ok (.iaload, 1) := by decide +kernel
theorem dL_law_223 : decode cL_law 223 = .ok (.invokevirtual 29, 3) := by decide +kernel
theorem dL_law_226 : decode cL_law 226 = .ok (.aload_n 2, 1) := by decide +kernel
theorem dL_law_227 : decode cL_law 227 = .ok (.aload_n 0, 1) := by decide +kernel
theorem dL_law_228 : decode cL_law 228 = .ok (.iload 4, 2) := by decide +kernel
theorem dL_law_230 : decode cL_law 230 = .ok (.iconst 1, 1) := by decide +kernel
theorem dL_law_231 : decode cL_law 231 = .ok (.iadd, 1) := by decide +kernel
theorem dL_law_232 : decode cL_law 232 = .ok (.iaload, 1) := by decide +kernel
theorem dL_law_233 : decode cL_law 233 = .ok (.aload_n 0, 1) := by decide +kernel
theorem dL_law_234 : decode cL_law 234 = .ok (.iload 4, 2) := by decide +kernel
theorem dL_law_236 : decode cL_law 236 = .ok (.iconst 2, 1) := by decide +kernel
theorem dL_law_237 : decode cL_law 237 = .ok (.iadd, 1) := by decide +kernel
theorem dL_law_238 : decode cL_law 238 = .ok (.iaload, 1) := by decide +kernel
theorem dL_law_239 : decode cL_law 239 = .ok (.invokevirtual 32, 3) := by decide +kernel
theorem dL_law_242 : decode cL_law 242 = .ok (.if_icmp .eq 594, 3) := by decide +kernel
theorem dL_law_245 : decode cL_law 245 = .ok (.iconst 0, 1) := by decide +kernel
theorem dL_law_246 : decode cL_law 246 = .ok (.ireturn, 1) := by decide +kernel
theorem dL_law_247 : decode cL_law 247 = .ok (.aload_n 1, 1) := by decide +kernel
theorem dL_law_248 : decode cL_law 248 = .ok (.aload_n 0, 1) := by decide +kernel
theorem dL_law_249 : decode cL_law 249 = .ok (.iload 4, 2) := by decide +kernel
theorem dL_law_251 : decode cL_law 251 = .ok (.iconst 1, 1) := by decide +kernel
theorem dL_law_252 : decode cL_law 252 = .ok (.iadd, 1) := by decide +kernel
theorem dL_law_253 : decode cL_law 253 = .ok (.iaload, 1) := by decide +kernel
theorem dL_law_254 : decode cL_law 254 = .ok (.aload_n 0, 1) := by decide +kernel
theorem dL_law_255 : decode cL_law 255 = .ok (.iload 4, 2) := by decide +kernel
theorem dL_law_257 : decode cL_law 257 = .ok (.iconst 2, 1) := by decide +kernel
theorem dL_law_258 : decode cL_law 258 = .ok (.iadd, 1) := by decide +kernel
theorem dL_law_259 : decode cL_law 259 = .ok (.iaload, 1) := by decide +kernel
theorem dL_law_260 : decode cL_law 260 = .ok (.aload_n 0, 1) := by decide +kernel
theorem dL_law_261 : decode cL_law 261 = .ok (.iload 4, 2) := by decide +kernel
theorem dL_law_263 : decode cL_law 263 = .ok (.iconst 3, 1) := by decide +kernel
theorem dL_law_264 : decode cL_law 264 = .ok (.iadd, 1) := by decide +kernel
theorem dL_law_265 : decode cL_law 265 = .ok (.iaload, 1) := by decide +kernel
theorem dL_law_266 : decode cL_law 266 = .ok (.invokevirtual 33, 3) := by decide +kernel
theorem dL_law_269 : decode cL_law 269 = .ok (.aload_n 2, 1) := by decide +kernel
theorem dL_law_270 : decode cL_law 270 = .ok (.aload_n 0, 1) := by decide +kernel
theorem dL_law_271 : decode cL_law 271 = .ok (.iload 4, 2) := by decide +kernel
theorem dL_law_273 : decode cL_law 273 = .ok (.iconst 1, 1) := by decide +kernel
theorem dL_law_274 : decode cL_law 274 = .ok (.iadd, 1) := by decide +kernel
theorem dL_law_275 : decode cL_law 275 = .ok (.iaload, 1) := by decide +kernel
theorem dL_law_276 : decode cL_law 276 = .ok (.aload_n 0, 1) := by decide +kernel
theorem dL_law_277 : decode cL_law 277 = .ok (.iload 4, 2) := by decide +kernel
theorem dL_law_279 : decode cL_law 279 = .ok (.iconst 2, 1) := by decide +kernel
theorem dL_law_280 : decode cL_law 280 = .ok (.iadd, 1) := by decide +kernel
theorem dL_law_281 : decode cL_law 281 = .ok (.iaload, 1) := by decide +kernel
theorem dL_law_282 : decode cL_law 282 = .ok (.aload_n 0, 1) := by decide +kernel
theorem dL_law_283 : decode cL_law 283 = .ok (.iload 4, 2) := by decide +kernel
theorem dL_law_285 : decode cL_law 285 = .ok (.iconst 3, 1) := by decide +kernel
theorem dL_law_286 : decode cL_law 286 = .ok (.iadd, 1) := by decide +kernel
theorem dL_law_287 : decode cL_law 287 = .ok (.iaload, 1) := by decide +kernel
theorem dL_law_288 : decode cL_law 288 = .ok (.invokevirtual 36, 3) := by decide +kernel
theorem dL_law_291 : decode cL_law 291 = .ok (.if_icmp .eq 545, 3) := by decide +kernel
theorem dL_law_294 : decode cL_law 294 = .ok (.iconst 0, 1) := by decide +kernel
theorem dL_law_295 : decode cL_law 295 = .ok (.ireturn, 1) := by decide +kernel
theorem dL_law_296 : decode cL_law 296 = .ok (.aload_n 1, 1) := by decide +kernel
theorem dL_law_297 : decode cL_law 297 = .ok (.aload_n 0, 1) := by decide +kernel
theorem dL_law_298 : decode cL_law 298 = .ok (.iload 4, 2) := by decide +kernel
theorem dL_law_300 : decode cL_law 300 = .ok (.iconst 1, 1) := by decide +kernel
theorem dL_law_301 : decode cL_law 301 = .ok (.iadd, 1) := by decide +kernel
theorem dL_law_302 : decode cL_law 302 = .ok (.iaload, 1) := by decide +kernel
theorem dL_law_303 : decode cL_law 303 = .ok (.aload_n 0, 1) := by decide +kernel
theorem dL_law_304 : decode cL_law 304 = .ok (.iload 4, 2) := by decide +kernel
theorem dL_law_306 : decode cL_law 306 = .ok (.iconst 2, 1) := by decide +kernel
theorem dL_law_307 : decode cL_law 307 = .ok (.iadd, 1) := by decide +kernel
theorem dL_law_308 : decode cL_law 308 = .ok (.iaload, 1) := by decide +kernel
theorem dL_law_309 : decode cL_law 309 = .ok (.aload_n 0, 1) := by decide +kernel
theorem dL_law_310 : decode cL_law 310 = .ok (.iload 4, 2) := by decide +kernel
theorem dL_law_312 : decode cL_law 312 = .ok (.iconst 3, 1) := by decide +kernel
theorem dL_law_313 : decode cL_law 313 = .ok (.iadd, 1) := by decide +kernel
theorem dL_law_314 : decode cL_law 314 = .ok (.iaload, 1) := by decide +kernel
theorem dL_law_315 : decode cL_law 315 = .ok (.invokevirtual 37, 3) := by decide +kernel
theorem dL_law_318 : decode cL_law 318 = .ok (.aload_n 2, 1) := by decide +kernel
theorem dL_law_319 : decode cL_law 319 = .ok (.aload_n 0, 1) := by decide +kernel
theorem dL_law_320 : decode cL_law 320 = .ok (.iload 4, 2) := by decide +kernel
theorem dL_law_322 : decode cL_law 322 = .ok (.iconst 1, 1) := by decide +kernel
theorem dL_law_323 : decode cL_law 323 = .ok (.iadd, 1) := by decide +kernel
theorem dL_law_324 : decode cL_law 324 = .ok (.iaload, 1) := by decide +kernel
theorem dL_law_325 : decode cL_law 325 = .ok (.aload_n 0, 1) := by decide +kernel
theorem dL_law_326 : decode cL_law 326 = .ok (.iload 4, 2) := by decide +kernel
theorem dL_law_328 : decode cL_law 328 = .ok (.iconst 2, 1) := by decide +kernel
theorem dL_law_329 : decode cL_law 329 = .ok (.iadd, 1) := by decide +kernel
theorem dL_law_330 : decode cL_law 330 = .ok (.iaload, 1) := by decide +kernel
theorem dL_law_331 : decode cL_law 331 = .ok (.aload_n 0, 1) := by decide +kernel
theorem dL_law_332 : decode cL_law 332 = .ok (.iload 4, 2) := by decide +kernel
theorem dL_law_334 : decode cL_law 334 = .ok (.iconst 3, 1) := by decide +kernel
theorem dL_law_335 : decode cL_law 335 = .ok (.iadd, 1) := by decide +kernel
theorem dL_law_336 : decode cL_law 336 = .ok (.iaload, 1) := by decide +kernel
theorem dL_law_337 : decode cL_law 337 = .ok (.invokevirtual 40, 3) := by decide +kernel
theorem dL_law_340 : decode cL_law 340 = .ok (.if_icmp .eq 496, 3) := by decide +kernel
theorem dL_law_343 : decode cL_law 343 = .ok (.iconst 0, 1) := by decide +kernel
theorem dL_law_344 : decode cL_law 344 = .ok (.ireturn, 1) := by decide +kernel
theorem dL_law_345 : decode cL_law 345 = .ok (.aload_n 1, 1) := by decide +kernel
theorem dL_law_346 : decode cL_law 346 = .ok (.aload_n 0, 1) := by decide +kernel
theorem dL_law_347 : decode cL_law 347 = .ok (.iload 4, 2) := by decide +kernel
theorem dL_law_349 : decode cL_law 349 = .ok (.iconst 1, 1) := by decide +kernel
theorem dL_law_350 : decode cL_law 350 = .ok (.iadd, 1) := by decide +kernel
theorem dL_law_351 : decode cL_law 351 = .ok (.iaload, 1) := by decide +kernel
theorem dL_law_352 : decode cL_law 352 = .ok (.aload_n 0, 1) := by decide +kernel
theorem dL_law_353 : decode cL_law 353 = .ok (.iload 4, 2) := by decide +kernel
theorem dL_law_355 : decode cL_law 355 = .ok (.iconst 2, 1) := by decide +kernel
theorem dL_law_356 : decode cL_law 356 = .ok (.iadd, 1) := by decide +kernel
theorem dL_law_357 : decode cL_law 357 = .ok (.iaload, 1) := by decide +kernel
theorem dL_law_358 : decode cL_law 358 = .ok (.invokevirtual 41, 3) := by decide +kernel
theorem dL_law_361 : decode cL_law 361 = .ok (.aload_n 2, 1) := by decide +kernel
theorem dL_law_362 : decode cL_law 362 = .ok (.aload_n 0, 1) := by decide +kernel
theorem dL_law_363 : decode cL_law 363 = .ok (.iload 4, 2) := by decide +kernel
theorem dL_law_365 : decode cL_law 365 = .ok (.iconst 1, 1) := by decide +kernel
theorem dL_law_366 : decode cL_law 366 = .ok (.iadd, 1) := by decide +kernel
theorem dL_law_367 : decode cL_law 367 = .ok (.iaload, 1) := by decide +kernel
theorem dL_law_368 : decode cL_law 368 = .ok (.aload_n 0, 1) := by decide +kernel
theorem dL_law_369 : decode cL_law 369 = .ok (.iload 4, 2) := by decide +kernel
theorem dL_law_371 : decode cL_law 371 = .ok (.iconst 2, 1) := by decide +kernel
theorem dL_law_372 : decode cL_law 372 = .ok (.iadd, 1) := by decide +kernel
theorem dL_law_373 : decode cL_law 373 = .ok (.iaload, 1) := by decide +kernel
theorem dL_law_374 : decode cL_law 374 = .ok (.invokevirtual 44, 3) := by decide +kernel
theorem dL_law_377 : decode cL_law 377 = .ok (.if_icmp .eq 459, 3) := by decide +kernel
theorem dL_law_380 : decode cL_law 380 = .ok (.iconst 0, 1) := by decide +kernel
theorem dL_law_381 : decode cL_law 381 = .ok (.ireturn, 1) := by decide +kernel
theorem dL_law_382 : decode cL_law 382 = .ok (.aload_n 1, 1) := by decide +kernel
theorem dL_law_383 : decode cL_law 383 = .ok (.aload_n 0, 1) := by decide +kernel
theorem dL_law_384 : decode cL_law 384 = .ok (.iload 4, 2) := by decide +kernel
theorem dL_law_386 : decode cL_law 386 = .ok (.iconst 1, 1) := by decide +kernel
theorem dL_law_387 : decode cL_law 387 = .ok (.iadd, 1) := by decide +kernel
theorem dL_law_388 : decode cL_law 388 = .ok (.iaload, 1) := by decide +kernel
theorem dL_law_389 : decode cL_law 389 = .ok (.aload_n 0, 1) := by decide +kernel
theorem dL_law_390 : decode cL_law 390 = .ok (.iload 4, 2) := by decide +kernel
theorem dL_law_392 : decode cL_law 392 = .ok (.iconst 2, 1) := by decide +kernel
theorem dL_law_393 : decode cL_law 393 = .ok (.iadd, 1) := by decide +kernel
theorem dL_law_394 : decode cL_law 394 = .ok (.iaload, 1) := by decide +kernel
theorem dL_law_395 : decode cL_law 395 = .ok (.invokevirtual 45, 3) := by decide +kernel
theorem dL_law_398 : decode cL_law 398 = .ok (.aload_n 2, 1) := by decide +kernel
theorem dL_law_399 : decode cL_law 399 = .ok (.aload_n 0, 1) := by decide +kernel
theorem dL_law_400 : decode cL_law 400 = .ok (.iload 4, 2) := by decide +kernel
theorem dL_law_402 : decode cL_law 402 = .ok (.iconst 1, 1) := by decide +kernel
theorem dL_law_403 : decode cL_law 403 = .ok (.iadd, 1) := by decide +kernel
theorem dL_law_404 : decode cL_law 404 = .ok (.iaload, 1) := by decide +kernel
theorem dL_law_405 : decode cL_law 405 = .ok (.aload_n 0, 1) := by decide +kernel
theorem dL_law_406 : decode cL_law 406 = .ok (.iload 4, 2) := by decide +kernel
theorem dL_law_408 : decode cL_law 408 = .ok (.iconst 2, 1) := by decide +kernel
theorem dL_law_409 : decode cL_law 409 = .ok (.iadd, 1) := by decide +kernel
theorem dL_law_410 : decode cL_law 410 = .ok (.iaload, 1) := by decide +kernel
theorem dL_law_411 : decode cL_law 411 = .ok (.invokevirtual 48, 3) := by decide +kernel
theorem dL_law_414 : decode cL_law 414 = .ok (.lcmp, 1) := by decide +kernel
theorem dL_law_415 : decode cL_law 415 = .ok (.ifCond .eq 421, 3) := by decide +kernel
theorem dL_law_418 : decode cL_law 418 = .ok (.iconst 0, 1) := by decide +kernel
theorem dL_law_419 : decode cL_law 419 = .ok (.ireturn, 1) := by decide +kernel
theorem dL_law_420 : decode cL_law 420 = .ok (.aload_n 1, 1) := by decide +kernel
theorem dL_law_421 : decode cL_law 421 = .ok (.aload_n 0, 1) := by decide +kernel
theorem dL_law_422 : decode cL_law 422 = .ok (.iload 4, 2) := by decide +kernel
theorem dL_law_424 : decode cL_law 424 = .ok (.iconst 1, 1) := by decide +kernel
theorem dL_law_425 : decode cL_law 425 = .ok (.iadd, 1) := by decide +kernel
theorem dL_law_426 : decode cL_law 426 = .ok (.iaload, 1) := by decide +kernel
theorem dL_law_427 : decode cL_law 427 = .ok (.invokevirtual 49, 3) := by decide +kernel
theorem dL_law_430 : decode cL_law 430 = .ok (.dstore 5, 2) := by decide +kernel
theorem dL_law_432 : decode cL_law 432 = .ok (.aload_n 2, 1) := by decide +kernel
theorem dL_law_433 : decode cL_law 433 = .ok (.aload_n 0, 1) := by decide +kernel
theorem dL_law_434 : decode cL_law 434 = .ok (.iload 4, 2) := by decide +kernel
theorem dL_law_436 : decode cL_law 436 = .ok (.iconst 1, 1) := by decide +kernel
theorem dL_law_437 : decode cL_law 437 = .ok (.iadd, 1) := by decide +kernel
theorem dL_law_438 : decode cL_law 438 = .ok (.iaload, 1) := by decide +kernel
theorem dL_law_439 : decode cL_law 439 = .ok (.invokevirtual 53, 3) := by decide +kernel
theorem dL_law_442 : decode cL_law 442 = .ok (.dstore 7, 2) := by decide +kernel
theorem dL_law_444 : decode cL_law 444 = .ok (.dload 5, 2) := by decide +kernel
theorem dL_law_446 : decode cL_law 446 = .ok (.dload 7, 2) := by decide +kernel
theorem dL_law_448 : decode cL_law 448 = .ok (.dcmp .l, 1) := by decide +kernel
theorem dL_law_449 : decode cL_law 449 = .ok (.ifCond .eq 21, 3) := by decide +kernel
theorem dL_law_452 : decode cL_law 452 = .ok (.dload 5, 2) := by decide +kernel
theorem dL_law_454 : decode cL_law 454 = .ok (.dload 5, 2) := by decide +kernel
theorem dL_law_456 : decode cL_law 456 = .ok (.dcmp .l, 1) := by decide +kernel
theorem dL_law_457 : decode cL_law 457 = .ok (.ifCond .eq 11, 3) := by decide +kernel
theorem dL_law_460 : decode cL_law 460 = .ok (.dload 7, 2) := by decide +kernel
theorem dL_law_462 : decode cL_law 462 = .ok (.dload 7, 2) := by decide +kernel
theorem dL_law_464 : decode cL_law 464 = .ok (.dcmp .l, 1) := by decide +kernel
theorem dL_law_465 : decode cL_law 465 = .ok (.ifCond .ne 5, 3) := by decide +kernel
theorem dL_law_468 : decode cL_law 468 = .ok (.iconst 0, 1) := by decide +kernel
theorem dL_law_469 : decode cL_law 469 = .ok (.ireturn, 1) := by decide +kernel
theorem dL_law_470 : decode cL_law 470 = .ok (.goto 366, 3) := by decide +kernel
theorem dL_law_473 : decode cL_law 473 = .ok (.aload_n 1, 1) := by decide +kernel
theorem dL_law_474 : decode cL_law 474 = .ok (.aload_n 0, 1) := by decide +kernel
theorem dL_law_475 : decode cL_law 475 = .ok (.iload 4, 2) := by decide +kernel
theorem dL_law_477 : decode cL_law 477 = .ok (.iconst 1, 1) := by decide +kernel
theorem dL_law_478 : decode cL_law 478 = .ok (.iadd, 1) := by decide +kernel
theorem dL_law_479 : decode cL_law 479 = .ok (.iaload, 1) := by decide +kernel
theorem dL_law_480 : decode cL_law 480 = .ok (.aload_n 0, 1) := by decide +kernel
theorem dL_law_481 : decode cL_law 481 = .ok (.iload 4, 2) := by decide +kernel
theorem dL_law_483 : decode cL_law 483 = .ok (.iconst 2, 1) := by decide +kernel
theorem dL_law_484 : decode cL_law 484 = .ok (.iadd, 1) := by decide +kernel
theorem dL_law_485 : decode cL_law 485 = .ok (.iaload, 1) := by decide +kernel
theorem dL_law_486 : decode cL_law 486 = .ok (.aload_n 3, 1) := by decide +kernel
theorem dL_law_487 : decode cL_law 487 = .ok (.invokestatic 54, 3) := by decide +kernel
theorem dL_law_490 : decode cL_law 490 = .ok (.istore 5, 2) := by decide +kernel
theorem dL_law_492 : decode cL_law 492 = .ok (.aload_n 2, 1) := by decide +kernel
theorem dL_law_493 : decode cL_law 493 = .ok (.aload_n 0, 1) := by decide +kernel
theorem dL_law_494 : decode cL_law 494 = .ok (.iload 4, 2) := by decide +kernel
theorem dL_law_496 : decode cL_law 496 = .ok (.iconst 1, 1) := by decide +kernel
theorem dL_law_497 : decode cL_law 497 = .ok (.iadd, 1) := by decide +kernel
theorem dL_law_498 : decode cL_law 498 = .ok (.iaload, 1) := by decide +kernel
theorem dL_law_499 : decode cL_law 499 = .ok (.aload_n 0, 1) := by decide +kernel
theorem dL_law_500 : decode cL_law 500 = .ok (.iload 4, 2) := by decide +kernel
theorem dL_law_502 : decode cL_law 502 = .ok (.iconst 2, 1) := by decide +kernel
theorem dL_law_503 : decode cL_law 503 = .ok (.iadd, 1) := by decide +kernel
theorem dL_law_504 : decode cL_law 504 = .ok (.iaload, 1) := by decide +kernel
theorem dL_law_505 : decode cL_law 505 = .ok (.invokevirtual 59, 3) := by decide +kernel
theorem dL_law_508 : decode cL_law 508 = .ok (.lstore 6, 2) := by decide +kernel
theorem dL_law_510 : decode cL_law 510 = .ok (.aload_n 2, 1) := by decide +kernel
theorem dL_law_511 : decode cL_law 511 = .ok (.invokevirtual 60, 3) := by decide +kernel
theorem dL_law_514 : decode cL_law 514 = .ok (.iload 5, 2) := by decide +kernel
theorem dL_law_516 : decode cL_law 516 = .ok (.if_icmp .eq 5, 3) := by decide +kernel
theorem dL_law_519 : decode cL_law 519 = .ok (.iconst 0, 1) := by decide +kernel
theorem dL_law_520 : decode cL_law 520 = .ok (.ireturn, 1) := by decide +kernel
theorem dL_law_521 : decode cL_law 521 = .ok (.iload 5, 2) := by decide +kernel
theorem dL_law_523 : decode cL_law 523 = .ok (.ifCond .ne 14, 3) := by decide +kernel
theorem dL_law_526 : decode cL_law 526 = .ok (.aload_n 3, 1) := by decide +kernel
theorem dL_law_527 : decode cL_law 527 = .ok (.iconst 0, 1) := by decide +kernel
theorem dL_law_528 : decode cL_law 528 = .ok (.laload, 1) := by decide +kernel
theorem dL_law_529 : decode cL_law 529 = .ok (.lload 6, 2) := by decide +kernel
theorem dL_law_531 : decode cL_law 531 = .ok (.lcmp, 1) := by decide +kernel
theorem dL_law_532 : decode cL_law 532 = .ok (.ifCond .eq 5, 3) := by decide +kernel
theorem dL_law_535 : decode cL_law 535 = .ok (.iconst 0, 1) := by decide +kernel
theorem dL_law_536 : decode cL_law 536 = .ok (.ireturn, 1) := by decide +kernel
theorem dL_law_537 : decode cL_law 537 = .ok (.goto 299, 3) := by decide +kernel
theorem dL_law_540 : decode cL_law 540 = .ok (.aload_n 1, 1) := by decide +kernel
theorem dL_law_541 : decode cL_law 541 = .ok (.aload_n 0, 1) := by decide +kernel
theorem dL_law_542 : decode cL_law 542 = .ok (.iload 4, 2) := by decide +kernel
theorem dL_law_544 : decode cL_law 544 = .ok (.iconst 1, 1) := by decide +kernel
theorem dL_law_545 : decode cL_law 545 = .ok (.iadd, 1) := by decide +kernel
theorem dL_law_546 : decode cL_law 546 = .ok (.iaload, 1) := by decide +kernel
theorem dL_law_547 : decode cL_law 547 = .ok (.aload_n 0, 1) := by decide +kernel
theorem dL_law_548 : decode cL_law 548 = .ok (.iload 4, 2) := by decide +kernel
theorem dL_law_550 : decode cL_law 550 = .ok (.iconst 2, 1) := by decide +kernel
theorem dL_law_551 : decode cL_law 551 = .ok (.iadd, 1) := by decide +kernel
theorem dL_law_552 : decode cL_law 552 = .ok (.iaload, 1) := by decide +kernel
theorem dL_law_553 : decode cL_law 553 = .ok (.aload_n 0, 1) := by decide +kernel
theorem dL_law_554 : decode cL_law 554 = .ok (.iload 4, 2) := by decide +kernel
theorem dL_law_556 : decode cL_law 556 = .ok (.iconst 3, 1) := by decide +kernel
theorem dL_law_557 : decode cL_law 557 = .ok (.iadd, 1) := by decide +kernel
theorem dL_law_558 : decode cL_law 558 = .ok (.iaload, 1) := by decide +kernel
theorem dL_law_559 : decode cL_law 559 = .ok (.invokevirtual 64, 3) := by decide +kernel
theorem dL_law_562 : decode cL_law 562 = .ok (.aload_n 2, 1) := by decide +kernel
theorem dL_law_563 : decode cL_law 563 = .ok (.aload_n 0, 1) := by decide +kernel
theorem dL_law_564 : decode cL_law 564 = .ok (.iload 4, 2) := by decide +kernel
theorem dL_law_566 : decode cL_law 566 = .ok (.iconst 1, 1) := by decide +kernel
theorem dL_law_567 : decode cL_law 567 = .ok (.iadd, 1) := by decide +kernel
theorem dL_law_568 : decode cL_law 568 = .ok (.iaload, 1) := by decide +kernel
theorem dL_law_569 : decode cL_law 569 = .ok (.aload_n 0, 1) := by decide +kernel
theorem dL_law_570 : decode cL_law 570 = .ok (.iload 4, 2) := by decide +kernel
theorem dL_law_572 : decode cL_law 572 = .ok (.iconst 2, 1) := by decide +kernel
theorem dL_law_573 : decode cL_law 573 = .ok (.iadd, 1) := by decide +kernel
theorem dL_law_574 : decode cL_law 574 = .ok (.iaload, 1) := by decide +kernel
theorem dL_law_575 : decode cL_law 575 = .ok (.aload_n 0, 1) := by decide +kernel
theorem dL_law_576 : decode cL_law 576 = .ok (.iload 4, 2) := by decide +kernel
theorem dL_law_578 : decode cL_law 578 = .ok (.iconst 3, 1) := by decide +kernel
theorem dL_law_579 : decode cL_law 579 = .ok (.iadd, 1) := by decide +kernel
theorem dL_law_580 : decode cL_law 580 = .ok (.iaload, 1) := by decide +kernel
theorem dL_law_581 : decode cL_law 581 = .ok (.invokevirtual 68, 3) := by decide +kernel
theorem dL_law_584 : decode cL_law 584 = .ok (.lcmp, 1) := by decide +kernel
theorem dL_law_585 : decode cL_law 585 = .ok (.ifCond .eq 251, 3) := by decide +kernel
theorem dL_law_588 : decode cL_law 588 = .ok (.iconst 0, 1) := by decide +kernel
theorem dL_law_589 : decode cL_law 589 = .ok (.ireturn, 1) := by decide +kernel
theorem dL_law_590 : decode cL_law 590 = .ok (.aload_n 1, 1) := by decide +kernel
theorem dL_law_591 : decode cL_law 591 = .ok (.aload_n 0, 1) := by decide +kernel
theorem dL_law_592 : decode cL_law 592 = .ok (.iload 4, 2) := by decide +kernel
theorem dL_law_594 : decode cL_law 594 = .ok (.iconst 1, 1) := by decide +kernel
theorem dL_law_595 : decode cL_law 595 = .ok (.iadd, 1) := by decide +kernel
theorem dL_law_596 : decode cL_law 596 = .ok (.iaload, 1) := by decide +kernel
theorem dL_law_597 : decode cL_law 597 = .ok (.invokevirtual 69, 3) := by decide +kernel
theorem dL_law_600 : decode cL_law 600 = .ok (.aload_n 2, 1) := by decide +kernel
theorem dL_law_601 : decode cL_law 601 = .ok (.aload_n 0, 1) := by decide +kernel
theorem dL_law_602 : decode cL_law 602 = .ok (.iload 4, 2) := by decide +kernel
theorem dL_law_604 : decode cL_law 604 = .ok (.iconst 1, 1) := by decide +kernel
theorem dL_law_605 : decode cL_law 605 = .ok (.iadd, 1) := by decide +kernel
theorem dL_law_606 : decode cL_law 606 = .ok (.iaload, 1) := by decide +kernel
theorem dL_law_607 : decode cL_law 607 = .ok (.invokevirtual 73, 3) := by decide +kernel
theorem dL_law_610 : decode cL_law 610 = .ok (.if_icmp .eq 226, 3) := by decide +kernel
theorem dL_law_613 : decode cL_law 613 = .ok (.iconst 0, 1) := by decide +kernel
theorem dL_law_614 : decode cL_law 614 = .ok (.ireturn, 1) := by decide +kernel
theorem dL_law_615 : decode cL_law 615 = .ok (.aload_n 1, 1) := by decide +kernel
theorem dL_law_616 : decode cL_law 616 = .ok (.aload_n 0, 1) := by decide +kernel
theorem dL_law_617 : decode cL_law 617 = .ok (.iload 4, 2) := by decide +kernel
theorem dL_law_619 : decode cL_law 619 = .ok (.iconst 1, 1) := by decide +kernel
theorem dL_law_620 : decode cL_law 620 = .ok (.iadd, 1) := by decide +kernel
theorem dL_law_621 : decode cL_law 621 = .ok (.iaload, 1) := by decide +kernel
theorem dL_law_622 : decode cL_law 622 = .ok (.invokevirtual 74, 3) := by decide +kernel
theorem dL_law_625 : decode cL_law 625 = .ok (.aload_n 2, 1) := by decide +kernel
theorem dL_law_626 : decode cL_law 626 = .ok (.aload_n 0, 1) := by decide +kernel
theorem dL_law_627 : decode cL_law 627 = .ok (.iload 4, 2) := by decide +kernel
theorem dL_law_629 : decode cL_law 629 = .ok (.iconst 1, 1) := by decide +kernel
theorem dL_law_630 : decode cL_law 630 = .ok (.iadd, 1) := by decide +kernel
theorem dL_law_631 : decode cL_law 631 = .ok (.iaload, 1) := by decide +kernel
theorem dL_law_632 : decode cL_law 632 = .ok (.invokevirtual 77, 3) := by decide +kernel
theorem dL_law_635 : decode cL_law 635 = .ok (.if_icmp .eq 201, 3) := by decide +kernel
theorem dL_law_638 : decode cL_law 638 = .ok (.iconst 0, 1) := by decide +kernel
theorem dL_law_639 : decode cL_law 639 = .ok (.ireturn, 1) := by decide +kernel
theorem dL_law_640 : decode cL_law 640 = .ok (.aload_n 1, 1) := by decide +kernel
theorem dL_law_641 : decode cL_law 641 = .ok (.aload_n 0, 1) := by decide +kernel
theorem dL_law_642 : decode cL_law 642 = .ok (.iload 4, 2) := by decide +kernel
theorem dL_law_644 : decode cL_law 644 = .ok (.iconst 1, 1) := by decide +kernel
theorem dL_law_645 : decode cL_law 645 = .ok (.iadd, 1) := by decide +kernel
theorem dL_law_646 : decode cL_law 646 = .ok (.iaload, 1) := by decide +kernel
theorem dL_law_647 : decode cL_law 647 = .ok (.invokevirtual 78, 3) := by decide +kernel
theorem dL_law_650 : decode cL_law 650 = .ok (.aload_n 2, 1) := by decide +kernel
theorem dL_law_651 : decode cL_law 651 = .ok (.aload_n 0, 1) := by decide +kernel
theorem dL_law_652 : decode cL_law 652 = .ok (.iload 4, 2) := by decide +kernel
theorem dL_law_654 : decode cL_law 654 = .ok (.iconst 1, 1) := by decide +kernel
theorem dL_law_655 : decode cL_law 655 = .ok (.iadd, 1) := by decide +kernel
theorem dL_law_656 : decode cL_law 656 = .ok (.iaload, 1) := by decide +kernel
theorem dL_law_657 : decode cL_law 657 = .ok (.invokevirtual 82, 3) := by decide +kernel
theorem dL_law_660 : decode cL_law 660 = .ok (.lcmp, 1) := by decide +kernel
theorem dL_law_661 : decode cL_law 661 = .ok (.ifCond .eq 175, 3) := by decide +kernel
theorem dL_law_664 : decode cL_law 664 = .ok (.iconst 0, 1) := by decide +kernel
theorem dL_law_665 : decode cL_law 665 = .ok (.ireturn, 1) := by decide +kernel
theorem dL_law_666 : decode cL_law 666 = .ok (.aload_n 1, 1) := by decide +kernel
theorem dL_law_667 : decode cL_law 667 = .ok (.aload_n 0, 1) := by decide +kernel
theorem dL_law_668 : decode cL_law 668 = .ok (.iload 4, 2) := by decide +kernel
theorem dL_law_670 : decode cL_law 670 = .ok (.iconst 1, 1) := by decide +kernel
theorem dL_law_671 : decode cL_law 671 = .ok (.iadd, 1) := by decide +kernel
theorem dL_law_672 : decode cL_law 672 = .ok (.iaload, 1) := by decide +kernel
theorem dL_law_673 : decode cL_law 673 = .ok (.invokevirtual 83, 3) := by decide +kernel
theorem dL_law_676 : decode cL_law 676 = .ok (.aload_n 2, 1) := by decide +kernel
theorem dL_law_677 : decode cL_law 677 = .ok (.aload_n 0, 1) := by decide +kernel
theorem dL_law_678 : decode cL_law 678 = .ok (.iload 4, 2) := by decide +kernel
theorem dL_law_680 : decode cL_law 680 = .ok (.iconst 1, 1) := by decide +kernel
theorem dL_law_681 : decode cL_law 681 = .ok (.iadd, 1) := by decide +kernel
theorem dL_law_682 : decode cL_law 682 = .ok (.iaload, 1) := by decide +kernel
theorem dL_law_683 : decode cL_law 683 = .ok (.invokevirtual 86, 3) := by decide +kernel
theorem dL_law_686 : decode cL_law 686 = .ok (.if_icmp .eq 150, 3) := by decide +kernel
theorem dL_law_689 : decode cL_law 689 = .ok (.iconst 0, 1) := by decide +kernel
theorem dL_law_690 : decode cL_law 690 = .ok (.ireturn, 1) := by decide +kernel
theorem dL_law_691 : decode cL_law 691 = .ok (.aload_n 1, 1) := by decide +kernel
theorem dL_law_692 : decode cL_law 692 = .ok (.aload_n 0, 1) := by decide +kernel
theorem dL_law_693 : decode cL_law 693 = .ok (.iload 4, 2) := by decide +kernel
theorem dL_law_695 : decode cL_law 695 = .ok (.iconst 1, 1) := by decide +kernel
theorem dL_law_696 : decode cL_law 696 = .ok (.iadd, 1) := by decide +kernel
theorem dL_law_697 : decode cL_law 697 = .ok (.iaload, 1) := by decide +kernel
theorem dL_law_698 : decode cL_law 698 = .ok (.aload_n 0, 1) := by decide +kernel
theorem dL_law_699 : decode cL_law 699 = .ok (.iload 4, 2) := by decide +kernel
theorem dL_law_701 : decode cL_law 701 = .ok (.iconst 2, 1) := by decide +kernel
theorem dL_law_702 : decode cL_law 702 = .ok (.iadd, 1) := by decide +kernel
theorem dL_law_703 : decode cL_law 703 = .ok (.iaload, 1) := by decide +kernel
theorem dL_law_704 : decode cL_law 704 = .ok (.invokevirtual 87, 3) := by decide +kernel
theorem dL_law_707 : decode cL_law 707 = .ok (.aload_n 2, 1) := by decide +kernel
theorem dL_law_708 : decode cL_law 708 = .ok (.aload_n 0, 1) := by decide +kernel
theorem dL_law_709 : decode cL_law 709 = .ok (.iload 4, 2) := by decide +kernel
theorem dL_law_711 : decode cL_law 711 = .ok (.iconst 1, 1) := by decide +kernel
theorem dL_law_712 : decode cL_law 712 = .ok (.iadd, 1) := by decide +kernel
theorem dL_law_713 : decode cL_law 713 = .ok (.iaload, 1) := by decide +kernel
theorem dL_law_714 : decode cL_law 714 = .ok (.aload_n 0, 1) := by decide +kernel
theorem dL_law_715 : decode cL_law 715 = .ok (.iload 4, 2) := by decide +kernel
theorem dL_law_717 : decode cL_law 717 = .ok (.iconst 2, 1) := by decide +kernel
theorem dL_law_718 : decode cL_law 718 = .ok (.iadd, 1) := by decide +kernel
theorem dL_law_719 : decode cL_law 719 = .ok (.iaload, 1) := by decide +kernel
theorem dL_law_720 : decode cL_law 720 = .ok (.invokevirtual 90, 3) := by decide +kernel
theorem dL_law_723 : decode cL_law 723 = .ok (.if_icmp .eq 113, 3) := by decide +kernel
theorem dL_law_726 : decode cL_law 726 = .ok (.iconst 0, 1) := by decide +kernel
theorem dL_law_727 : decode cL_law 727 = .ok (.ireturn, 1) := by decide +kernel
theorem dL_law_728 : decode cL_law 728 = .ok (.aload_n 1, 1) := by decide +kernel
theorem dL_law_729 : decode cL_law 729 = .ok (.aload_n 0, 1) := by decide +kernel
theorem dL_law_730 : decode cL_law 730 = .ok (.iload 4, 2) := by decide +kernel
theorem dL_law_732 : decode cL_law 732 = .ok (.iconst 1, 1) := by decide +kernel
theorem dL_law_733 : decode cL_law 733 = .ok (.iadd, 1) := by decide +kernel
theorem dL_law_734 : decode cL_law 734 = .ok (.iaload, 1) := by decide +kernel
theorem dL_law_735 : decode cL_law 735 = .ok (.aload_n 0, 1) := by decide +kernel
theorem dL_law_736 : decode cL_law 736 = .ok (.iload 4, 2) := by decide +kernel
theorem dL_law_738 : decode cL_law 738 = .ok (.iconst 2, 1) := by decide +kernel
theorem dL_law_739 : decode cL_law 739 = .ok (.iadd, 1) := by decide +kernel
theorem dL_law_740 : decode cL_law 740 = .ok (.iaload, 1) := by decide +kernel
theorem dL_law_741 : decode cL_law 741 = .ok (.i2l, 1) := by decide +kernel
theorem dL_law_742 : decode cL_law 742 = .ok (.bipush 32, 2) := by decide +kernel
theorem dL_law_744 : decode cL_law 744 = .ok (.lshl, 1) := by decide +kernel
theorem dL_law_745 : decode cL_law 745 = .ok (.aload_n 0, 1) := by decide +kernel
theorem dL_law_746 : decode cL_law 746 = .ok (.iload 4, 2) := by decide +kernel
theorem dL_law_748 : decode cL_law 748 = .ok (.iconst 3, 1) := by decide +kernel
theorem dL_law_749 : decode cL_law 749 = .ok (.iadd, 1) := by decide +kernel
theorem dL_law_750 : decode cL_law 750 = .ok (.iaload, 1) := by decide +kernel
theorem dL_law_751 : decode cL_law 751 = .ok (.i2l, 1) := by decide +kernel
theorem dL_law_752 : decode cL_law 752 = .ok (.ldc2_w 91, 3) := by decide +kernel
theorem dL_law_755 : decode cL_law 755 = .ok (.land, 1) := by decide +kernel
theorem dL_law_756 : decode cL_law 756 = .ok (.lor, 1) := by decide +kernel
theorem dL_law_757 : decode cL_law 757 = .ok (.aload_n 0, 1) := by decide +kernel
theorem dL_law_758 : decode cL_law 758 = .ok (.iload 4, 2) := by decide +kernel
theorem dL_law_760 : decode cL_law 760 = .ok (.iconst 4, 1) := by decide +kernel
theorem dL_law_761 : decode cL_law 761 = .ok (.iadd, 1) := by decide +kernel
theorem dL_law_762 : decode cL_law 762 = .ok (.iaload, 1) := by decide +kernel
theorem dL_law_763 : decode cL_law 763 = .ok (.invokevirtual 93, 3) := by decide +kernel
theorem dL_law_766 : decode cL_law 766 = .ok (.aload_n 2, 1) := by decide +kernel
theorem dL_law_767 : decode cL_law 767 = .ok (.aload_n 0, 1) := by decide +kernel
theorem dL_law_768 : decode cL_law 768 = .ok (.iload 4, 2) := by decide +kernel
theorem dL_law_770 : decode cL_law 770 = .ok (.iconst 1, 1) := by decide +kernel
theorem dL_law_771 : decode cL_law 771 = .ok (.iadd, 1) := by decide +kernel
theorem dL_law_772 : decode cL_law 772 = .ok (.iaload, 1) := by decide +kernel
theorem dL_law_773 : decode cL_law 773 = .ok (.aload_n 0, 1) := by decide +kernel
theorem dL_law_774 : decode cL_law 774 = .ok (.iload 4, 2) := by decide +kernel
theorem dL_law_776 : decode cL_law 776 = .ok (.iconst 2, 1) := by decide +kernel
theorem dL_law_777 : decode cL_law 777 = .ok (.iadd, 1) := by decide +kernel
theorem dL_law_778 : decode cL_law 778 = .ok (.iaload, 1) := by decide +kernel
theorem dL_law_779 : decode cL_law 779 = .ok (.i2l, 1) := by decide +kernel
theorem dL_law_780 : decode cL_law 780 = .ok (.bipush 32, 2) := by decide +kernel
theorem dL_law_782 : decode cL_law 782 = .ok (.lshl, 1) := by decide +kernel
theorem dL_law_783 : decode cL_law 783 = .ok (.aload_n 0, 1) := by decide +kernel
theorem dL_law_784 : decode cL_law 784 = .ok (.iload 4, 2) := by decide +kernel
theorem dL_law_786 : decode cL_law 786 = .ok (.iconst 3, 1) := by decide +kernel
theorem dL_law_787 : decode cL_law 787 = .ok (.iadd, 1) := by decide +kernel
theorem dL_law_788 : decode cL_law 788 = .ok (.iaload, 1) := by decide +kernel
theorem dL_law_789 : decode cL_law 789 = .ok (.i2l, 1) := by decide +kernel
theorem dL_law_790 : decode cL_law 790 = .ok (.ldc2_w 91, 3) := by decide +kernel
theorem dL_law_793 : decode cL_law 793 = .ok (.land, 1) := by decide +kernel
theorem dL_law_794 : decode cL_law 794 = .ok (.lor, 1) := by decide +kernel
theorem dL_law_795 : decode cL_law 795 = .ok (.aload_n 0, 1) := by decide +kernel
theorem dL_law_796 : decode cL_law 796 = .ok (.iload 4, 2) := by decide +kernel
theorem dL_law_798 : decode cL_law 798 = .ok (.iconst 4, 1) := by decide +kernel
theorem dL_law_799 : decode cL_law 799 = .ok (.iadd, 1) := by decide +kernel
theorem dL_law_800 : decode cL_law 800 = .ok (.iaload, 1) := by decide +kernel
theorem dL_law_801 : decode cL_law 801 = .ok (.invokevirtual 97, 3) := by decide +kernel
theorem dL_law_804 : decode cL_law 804 = .ok (.if_icmp .eq 32, 3) := by decide +kernel
theorem dL_law_807 : decode cL_law 807 = .ok (.iconst 0, 1) := by decide +kernel
theorem dL_law_808 : decode cL_law 808 = .ok (.ireturn, 1) := by decide +kernel
theorem dL_law_809 : decode cL_law 809 = .ok (.aload_n 1, 1) := by decide +kernel
theorem dL_law_810 : decode cL_law 810 = .ok (.invokevirtual 98, 3) := by decide +kernel
theorem dL_law_813 : decode cL_law 813 = .ok (.aload_n 2, 1) := by decide +kernel
theorem dL_law_814 : decode cL_law 814 = .ok (.invokevirtual 102, 3) := by decide +kernel
theorem dL_law_817 : decode cL_law 817 = .ok (.lcmp, 1) := by decide +kernel
theorem dL_law_818 : decode cL_law 818 = .ok (.ifCond .eq 18, 3) := by decide +kernel
theorem dL_law_821 : decode cL_law 821 = .ok (.iconst 0, 1) := by decide +kernel
theorem dL_law_822 : decode cL_law 822 = .ok (.ireturn, 1) := by decide +kernel
theorem dL_law_823 : decode cL_law 823 = .ok (.aload_n 1, 1) := by decide +kernel
theorem dL_law_824 : decode cL_law 824 = .ok (.invokevirtual 103, 3) := by decide +kernel
theorem dL_law_827 : decode cL_law 827 = .ok (.aload_n 2, 1) := by decide +kernel
theorem dL_law_828 : decode cL_law 828 = .ok (.invokevirtual 106, 3) := by decide +kernel
theorem dL_law_831 : decode cL_law 831 = .ok (.if_icmp .eq 5, 3) := by decide +kernel
theorem dL_law_834 : decode cL_law 834 = .ok (.iconst 0, 1) := by decide +kernel
theorem dL_law_835 : decode cL_law 835 = .ok (.ireturn, 1) := by decide +kernel
theorem dL_law_836 : decode cL_law 836 = .ok (.iinc 4 5, 3) := by decide +kernel
theorem dL_law_839 : decode cL_law 839 = .ok (.goto (-816), 3) := by decide +kernel
theorem dL_law_842 : decode cL_law 842 = .ok (.iconst 1, 1) := by decide +kernel
theorem dL_law_843 : decode cL_law 843 = .ok (.ireturn, 1) := by decide +kernel
abbrev vwCl : List vw_C := [(RX0, TX0, 8), (RX1, TX1, 7)]
/-! ===== END printed: names (the pool is left out: it is not used) ===== -/
end
section
/-! ===== the layer between the kit's rows and the contracts of this claim ===== -/
theorem oo_getD {α : Type} {l : List α} {k : Nat} {x : α} (h : l[k]? = some x) : k < l.length := (List.getElem?_eq_some_iff.mp h).1
/-- a read-only method's start: the world is held, no more -/
def oo_pre (D : va_G) (ws : va_W) (tys : List (ClassId × FieldType)) : State → Prop := fun U => va_P D vwCl ws U.heap ∧ va_K D vwCl tys U
/-- a writing method's start -/
def oo_preM (D : va_G) (ws : va_W) (tys : List (ClassId × FieldType)) (sz : Nat) : State → Prop := fun U => U.heap.size = sz ∧ va_P D vwCl ws U.heap ∧ va_K D vwCl tys U ∧ va_D (fun _ => True) ws
theorem oo_blind {av : List Value} {D : va_G} {ws : va_W} {tys : List (ClassId × FieldType)} : FrameBlind (va_Pc av (oo_pre D ws tys)) := fun a U g mk q => ⟨q.1, q.2.1, va_K.moved (u := U) (U := U.calling g mk a) (Vm.Alike.refl U.vm) q.2.2⟩
theorem oo_blindM {av : List Value} {D : va_G} {ws : va_W} {tys : List (ClassId × FieldType)} {sz : Nat} : FrameBlind (va_Pc av (oo_preM D ws tys sz)) := fun a U g mk q => ⟨q.1, q.2.1, q.2.2.1, va_K.moved (u := U) (U := U.calling g mk a) (Vm.Alike.refl U.vm) q.2.2.2.1, q.2.2.2.2⟩
abbrev oo_N : Nat → Prop := fun _ => False
abbrev oo_RQi (v : Int32) : Array Value → State → Outcome → State → Prop := va_Qi (fun r (_ : Unit) => r = v) (fun _ _ => True) oo_N
abbrev oo_RQl (v : Int64) : Array Value → State → Outcome → State → Prop := va_Ql (fun r (_ : Unit) => r = v) (fun _ _ => True) oo_N
abbrev oo_RQd (v : UInt64) : Array Value → State → Outcome → State → Prop := va_Qd (fun r (_ : Unit) => r = v) (fun _ _ => True) oo_N
abbrev oo_MQi (D : va_G) (ws ws2 : va_W) (sz : Nat) (v : Int32) : Array Value → State → Outcome → State → Prop := va_Qi (fun r (_ : Unit) => r = v) (fun _ t => va_P D vwCl ws2 t.heap ∧ va_D (va_A ws sz) ws2) (va_A ws sz)
abbrev oo_MQl (D : va_G) (ws ws2 : va_W) (sz : Nat) (v : Int64) : Array Value → State → Outcome → State → Prop := va_Ql (fun r (_ : Unit) => r = v) (fun _ t => va_P D vwCl ws2 t.heap ∧ va_D (va_A ws sz) ws2) (va_A ws sz)
abbrev oo_MQd (D : va_G) (ws ws2 : va_W) (sz : Nat) (v : UInt64) : Array Value → State → Outcome → State → Prop := va_Qd (fun r (_ : Unit) => r = v) (fun _ t => va_P D vwCl ws2 t.heap ∧ va_D (va_A ws sz) ws2) (va_A ws sz)
abbrev oo_MQv (D : va_G) (ws ws2 : va_W) (sz : Nat) : Array Value → State → Outcome → State → Prop := va_Qv (fun (_ : Unit) => True) (fun _ t => va_P D vwCl ws2 t.heap ∧ va_D (va_A ws sz) ws2) (va_A ws sz)
/-- read-only contracts: the answer is v; writing ones: the answer is v, the world is ws2 -/
abbrev RoI (l : Launch) (y : MethodName) (wy : List Cond) (rm : Room) (av : List Value) (D : va_G) (ws : va_W) (tys : List (ClassId × FieldType)) (v : Int32) : Prop := Met l y wy rm (va_Pc av (oo_pre D ws tys)) (oo_RQi v) 0 0 oo_N
abbrev RoL (l : Launch) (y : MethodName) (wy : List Cond) (rm : Room) (av : List Value) (D : va_G) (ws : va_W) (tys : List (ClassId × FieldType)) (v : Int64) : Prop := Met l y wy rm (va_Pc av (oo_pre D ws tys)) (oo_RQl v) 0 0 oo_N
abbrev RoD (l : Launch) (y : MethodName) (wy : List Cond) (rm : Room) (av : List Value) (D : va_G) (ws : va_W) (tys : List (ClassId × FieldType)) (v : UInt64) : Prop := Met l y wy rm (va_Pc av (oo_pre D ws tys)) (oo_RQd v) 0 0 oo_N
abbrev MuI (l : Launch) (y : MethodName) (wy : List Cond) (rm : Room) (av : List Value) (D : va_G) (ws : va_W) (tys : List (ClassId × FieldType)) (ws2 : va_W) (v : Int32) : Prop := ∀ sz : Nat, Met l y wy rm (va_Pc av (oo_preM D ws tys sz)) (oo_MQi D ws ws2 sz v) 0 0 (va_A ws sz)
abbrev MuL (l : Launch) (y : MethodName) (wy : List Cond) (rm : Room) (av : List Value) (D : va_G) (ws : va_W) (tys : List (ClassId × FieldType)) (ws2 : va_W) (v : Int64) : Prop := ∀ sz : Nat, Met l y wy rm (va_Pc av (oo_preM D ws tys sz)) (oo_MQl D ws ws2 sz v) 0 0 (va_A ws sz)
abbrev MuD (l : Launch) (y : MethodName) (wy : List Cond) (rm : Room) (av : List Value) (D : va_G) (ws : va_W) (tys : List (ClassId × FieldType)) (ws2 : va_W) (v : UInt64) : Prop := ∀ sz : Nat, Met l y wy rm (va_Pc av (oo_preM D ws tys sz)) (oo_MQd D ws ws2 sz v) 0 0 (va_A ws sz)
abbrev MuV (l : Launch) (y : MethodName) (wy : List Cond) (rm : Room) (av : List Value) (D : va_G) (ws : va_W) (tys : List (ClassId × FieldType)) (ws2 : va_W) : Prop := ∀ sz : Nat, Met l y wy rm (va_Pc av (oo_preM D ws tys sz)) (oo_MQv D ws ws2 sz) 0 0 (va_A ws sz)
/-- the head of any method -/
theorem oo_head {l : Launch} {C : String} {y : MethodName} {ws ws' : List Cond} {rm : Room} {Pre : State → Prop} {Qc : Array Value → State → Outcome → State → Prop} {mc ms : Nat} {free : Addr → Prop} {cc : ByteArray} {maxL : Nat} {ret : Option FieldType} {av : List Value}
    (hy : plainName y.cls = true) (hyc : y.cls = C) (hw : ws = Cond.code y cc maxL ret :: ws') (hlen : (lg_sl av).length ≤ maxL)
    (body : ∀ (p : Program) (e : Env) (s : State) (m : MethodId) (below : List Frame) (meth : Method) (c : Code), p.tables.exec = Jvm.exec → c.code = cc → meth.sig.returnType = ret → meth.locks = false → c.maxLocals = maxL → s.vm.findClass C = some m.cls → meth.name = y.name →
      (∀ w ∈ ws, w.before av.toArray s = true) → Pre s → ∀ ls : Array Slot, lv_has ls maxL (lv_args 0 av) →
      W p l e rm s m av.toArray below meth c s.heap [] 0 0 (MQ below Qc av.toArray s mc ms free) (F0 m 0 ls [])) : Met l y ws rm (va_Pc av Pre) Qc mc ms free := by
  refine Met.ofW (cc := cc) (maxL := maxL) (ret := ret) hy hw ?_
  intro p e s m args below meth c s₁ B hml hP
  obtain ⟨rfl, hpre⟩ := hP
  have hts := atoms_spec (ws := ws) B.pre
  have hown : s.vm.findClass C = some m.cls := hyc ▸ findClass_of_methodNamed B.named
  have hl := lv_entry av (n := maxL) hlen
  rw [lg_entry_eq]
  exact body p e s m below meth c B.exec B.bytes B.returns B.notSynchronized hml hown (name_of_methodNamed B.named B.method).1 hts hpre _ hl
/-- the world with some of its cells replaced, each by one of the same address -/
def oo_repl : va_W → List Nat → va_W → va_W
  | ws, i :: is, x :: xs => oo_repl (ws.set i x) is xs
  | ws, _, _ => ws
theorem oo_repl_get : ∀ (is : List Nat) (xs ws : va_W), is.length = xs.length → ∀ (k : Nat) (q : Nat × va_E), (oo_repl ws is xs)[k]? = some q → (∃ j : Nat, is[j]? = some k ∧ xs[j]? = some q) ∨ (k ∉ is ∧ ws[k]? = some q)
  | [], [], ws, _, k, q, h => Or.inr ⟨List.not_mem_nil, h⟩
  | [], _ :: _, ws, hl, _, _, _ => by simp at hl
  | _ :: _, [], ws, hl, _, _, _ => by simp at hl
  | i :: is, x :: xs, ws, hl, k, q, h => by
    have h1 := oo_repl_get is xs (ws.set i x) (by simpa using hl) k q h
    rcases h1 with ⟨j, h2, h3⟩ | ⟨h2, h3⟩
    · exact Or.inl ⟨j + 1, h2, h3⟩
    · by_cases hik : i = k
      · subst hik
        rw [List.getElem?_set_self'] at h3
        cases hw : ws[i]? with
        | none => rw [hw] at h3; cases h3
        | some z => rw [hw] at h3; exact Or.inl ⟨0, rfl, h3⟩
      · rw [List.getElem?_set_ne hik] at h3
        exact Or.inr ⟨fun hm => (List.mem_cons.mp hm).elim (fun e => hik e.symm) h2, h3⟩
theorem oo_world {A0 : Nat → Prop} {D : va_G} {cl : List vw_C} {ws wc w1 : va_W} {H H1 : Heap} (hP : va_P D cl ws H) (hD : va_D A0 ws) (is : List Nat) (hC : is.map (fun i => ws[i]?) = wc.map some) (hF : w1.map (fun q => q.1) = wc.map (fun q => q.1))
    (hk : ∀ q : Nat, q < H.size → ¬ va_A wc H.size q → H1[q]? = H[q]?) (hP1 : va_P D cl w1 H1) : va_P D cl (oo_repl ws is w1) H1 ∧ va_D A0 (oo_repl ws is w1) := by
  have hl1 : is.length = wc.length := by simpa using congrArg List.length hC
  have hl2 : w1.length = wc.length := by simpa using congrArg List.length hF
  have at' : ∀ (j i : Nat), is[j]? = some i → ∃ q, wc[j]? = some q ∧ ws[i]? = some q := by
    intro j i hj
    have h1 : (is.map (fun i => ws[i]?))[j]? = some (ws[i]?) := by rw [List.getElem?_map, hj]; rfl
    rw [hC, List.getElem?_map] at h1
    cases hw : wc[j]? with
    | none => rw [hw] at h1; cases h1
    | some q => rw [hw] at h1; exact ⟨q, rfl, (Option.some.inj h1).symm⟩
  have ad : ∀ (j : Nat) (x q : Nat × va_E), w1[j]? = some x → wc[j]? = some q → x.1 = q.1 := by
    intro j x q hx hq
    have h1 : (w1.map (fun q => q.1))[j]? = some x.1 := by rw [List.getElem?_map, hx]; rfl
    rw [hF, List.getElem?_map, hq] at h1
    exact (Option.some.inj h1).symm
  have old : ∀ (k : Nat) (q : Nat × va_E), (oo_repl ws is w1)[k]? = some q → ∃ r, ws[k]? = some r ∧ r.1 = q.1 := by
    intro k q h
    rcases oo_repl_get is w1 ws (by omega) k q h with ⟨j, h1, h2⟩ | ⟨h1, h2⟩
    · obtain ⟨r, h3, h4⟩ := at' j k h1
      exact ⟨r, h4, (ad j q r h2 h3).symm⟩
    · exact ⟨q, h2, rfl⟩
  refine ⟨fun k q h => ?_, fun i j p q hi hj hpq => ?_, fun k q h => ?_⟩
  · rcases oo_repl_get is w1 ws (by omega) k q h with ⟨j, h1, h2⟩ | ⟨h1, h2⟩
    · exact hP1 j q h2
    · refine (hP k q h2).kept (hk q.1 (hP k q h2).lt (fun hA => ?_))
      rcases hA with ⟨k2, e, h3⟩ | h3
      · have hlt := oo_getD h3
        obtain ⟨i, hi⟩ : ∃ i, is[k2]? = some i := ⟨is[k2]'(by omega), List.getElem?_eq_getElem (by omega)⟩
        obtain ⟨r, h4, h5⟩ := at' k2 i hi
        cases h3.symm.trans h4
        have := hD.1 k i q (q.1, e) h2 h5 rfl
        subst this
        exact h1 (List.mem_of_getElem? hi)
      · have := (hP k q h2).lt
        omega
  · obtain ⟨r1, g1, e1⟩ := old i p hi
    obtain ⟨r2, g2, e2⟩ := old j q hj
    exact hD.1 i j r1 r2 g1 g2 (by rw [e1, e2]; exact hpq)
  · obtain ⟨r, g, e⟩ := old k q h
    rw [← e]
    exact hD.2 k r g
section OO
variable {p : Program} {l : Launch} {e : Env} {R : Room} {s : State} {m : MethodId} {args : Array Value} {below : List Frame} {meth : Method} {c : Code} {H : Heap} {locs : List Loc} {cells slots : Nat} {Q : State → Prop}
variable {pc : Nat} {ls : Array Slot} {rest st0 : List Value} {a : Array Value} {A0 : Nat → Prop} {H0 : Heap} {D : va_G} {cl : List vw_C} {ws wc w1 : va_W} {cc : ByteArray}
/-- a name for the top of the stack -/
theorem oo_topI {x y : Int32} (h : x = y) (k : W p l e R s m args below meth c H locs cells slots Q (F0 m pc ls (.int y :: rest))) : W p l e R s m args below meth c H locs cells slots Q (F0 m pc ls (.int x :: rest)) := h ▸ k
theorem oo_topL {x y : Int64} (h : x = y) (k : W p l e R s m args below meth c H locs cells slots Q (F0 m pc ls (.long y :: rest))) : W p l e R s m args below meth c H locs cells slots Q (F0 m pc ls (.long x :: rest)) := h ▸ k
theorem oo_topD {x y : UInt64} (h : x = y) (k : W p l e R s m args below meth c H locs cells slots Q (F0 m pc ls (.double y :: rest))) : W p l e R s m args below meth c H locs cells slots Q (F0 m pc ls (.double x :: rest)) := h ▸ k
theorem ro_calli {v : Int32} (hr : va_Run p l e R s m args below meth c H locs cells slots 0 0 (F0 m pc ls st0) rest (oo_RQi v a) oo_N) (hP : va_P D cl ws H) (hS : va_S A0 H0 H locs)
    (kk : ∀ (H1 : Heap) (locs1 : List Loc), va_P D cl ws H1 → va_S A0 H0 H1 locs1 → W p l e R s m args below meth c H1 locs1 cells slots Q (F0 m (pc + 3) ls (.int v :: rest))) : W p l e R s m args below meth c H locs cells slots Q (F0 m pc ls st0) :=
  va_calli hr hS (fun q _ h => h.elim) (fun q h => h.elim) (fun r u t H1 locs1 ht hvm hp hb hz hk hS1 => by
    subst hp
    exact kk H1 locs1 (hP.kept (fun k q h => hk q.1 (hP k q h).lt (fun z => z))) hS1)
theorem ro_calll {v : Int64} (hr : va_Run p l e R s m args below meth c H locs cells slots 0 0 (F0 m pc ls st0) rest (oo_RQl v a) oo_N) (hP : va_P D cl ws H) (hS : va_S A0 H0 H locs)
    (kk : ∀ (H1 : Heap) (locs1 : List Loc), va_P D cl ws H1 → va_S A0 H0 H1 locs1 → W p l e R s m args below meth c H1 locs1 cells slots Q (F0 m (pc + 3) ls (.long v :: rest))) : W p l e R s m args below meth c H locs cells slots Q (F0 m pc ls st0) :=
  va_calll hr hS (fun q _ h => h.elim) (fun q h => h.elim) (fun r u t H1 locs1 ht hvm hp hb hz hk hS1 => by
    subst hp
    exact kk H1 locs1 (hP.kept (fun k q h => hk q.1 (hP k q h).lt (fun z => z))) hS1)
theorem ro_calld {v : UInt64} (hr : va_Run p l e R s m args below meth c H locs cells slots 0 0 (F0 m pc ls st0) rest (oo_RQd v a) oo_N) (hP : va_P D cl ws H) (hS : va_S A0 H0 H locs)
    (kk : ∀ (H1 : Heap) (locs1 : List Loc), va_P D cl ws H1 → va_S A0 H0 H1 locs1 → W p l e R s m args below meth c H1 locs1 cells slots Q (F0 m (pc + 3) ls (.double v :: rest))) : W p l e R s m args below meth c H locs cells slots Q (F0 m pc ls st0) :=
  va_calld hr hS (fun q _ h => h.elim) (fun q h => h.elim) (fun r u t H1 locs1 ht hvm hp hb hz hk hS1 => by
    subst hp
    exact kk H1 locs1 (hP.kept (fun k q h => hk q.1 (hP k q h).lt (fun z => z))) hS1)
theorem mu_calli {v : Int32} (hr : va_Run p l e R s m args below meth c H locs cells slots 0 0 (F0 m pc ls st0) rest (oo_MQi D wc w1 H.size v a) (va_A wc H.size)) (hP : va_P D vwCl ws H) (hD : va_D A0 ws) (hS : va_S A0 H0 H locs) (hA : ∀ q, H0.size ≤ q → A0 q)
    (is : List Nat) (hC : is.map (fun i => ws[i]?) = wc.map some) (hF : w1.map (fun q => q.1) = wc.map (fun q => q.1))
    (kk : ∀ (H1 : Heap) (locs1 : List Loc), va_P D vwCl (oo_repl ws is w1) H1 → va_D A0 (oo_repl ws is w1) → va_S A0 H0 H1 locs1 → W p l e R s m args below meth c H1 locs1 cells slots Q (F0 m (pc + 3) ls (.int v :: rest))) : W p l e R s m args below meth c H locs cells slots Q (F0 m pc ls st0) := by
  have hFc := va_free (wc := wc) hD hS hA is hC
  exact va_calli hr hS (fun q _ h => hFc q h) hFc (fun r u t H1 locs1 ht hvm hp hb hz hk hS1 => by
    subst hp; subst ht
    obtain ⟨g1, g2⟩ := oo_world hP hD is hC hF hk hb.1
    exact kk _ locs1 g1 g2 hS1)
theorem mu_calll {v : Int64} (hr : va_Run p l e R s m args below meth c H locs cells slots 0 0 (F0 m pc ls st0) rest (oo_MQl D wc w1 H.size v a) (va_A wc H.size)) (hP : va_P D vwCl ws H) (hD : va_D A0 ws) (hS : va_S A0 H0 H locs) (hA : ∀ q, H0.size ≤ q → A0 q)
    (is : List Nat) (hC : is.map (fun i => ws[i]?) = wc.map some) (hF : w1.map (fun q => q.1) = wc.map (fun q => q.1))
    (kk : ∀ (H1 : Heap) (locs1 : List Loc), va_P D vwCl (oo_repl ws is w1) H1 → va_D A0 (oo_repl ws is w1) → va_S A0 H0 H1 locs1 → W p l e R s m args below meth c H1 locs1 cells slots Q (F0 m (pc + 3) ls (.long v :: rest))) : W p l e R s m args below meth c H locs cells slots Q (F0 m pc ls st0) := by
  have hFc := va_free (wc := wc) hD hS hA is hC
  exact va_calll hr hS (fun q _ h => hFc q h) hFc (fun r u t H1 locs1 ht hvm hp hb hz hk hS1 => by
    subst hp; subst ht
    obtain ⟨g1, g2⟩ := oo_world hP hD is hC hF hk hb.1
    exact kk _ locs1 g1 g2 hS1)
theorem mu_calld {v : UInt64} (hr : va_Run p l e R s m args below meth c H locs cells slots 0 0 (F0 m pc ls st0) rest (oo_MQd D wc w1 H.size v a) (va_A wc H.size)) (hP : va_P D vwCl ws H) (hD : va_D A0 ws) (hS : va_S A0 H0 H locs) (hA : ∀ q, H0.size ≤ q → A0 q)
    (is : List Nat) (hC : is.map (fun i => ws[i]?) = wc.map some) (hF : w1.map (fun q => q.1) = wc.map (fun q => q.1))
    (kk : ∀ (H1 : Heap) (locs1 : List Loc), va_P D vwCl (oo_repl ws is w1) H1 → va_D A0 (oo_repl ws is w1) → va_S A0 H0 H1 locs1 → W p l e R s m args below meth c H1 locs1 cells slots Q (F0 m (pc + 3) ls (.double v :: rest))) : W p l e R s m args below meth c H locs cells slots Q (F0 m pc ls st0) := by
  have hFc := va_free (wc := wc) hD hS hA is hC
  exact va_calld hr hS (fun q _ h => hFc q h) hFc (fun r u t H1 locs1 ht hvm hp hb hz hk hS1 => by
    subst hp; subst ht
    obtain ⟨g1, g2⟩ := oo_world hP hD is hC hF hk hb.1
    exact kk _ locs1 g1 g2 hS1)
theorem mu_callv (hr : va_Run p l e R s m args below meth c H locs cells slots 0 0 (F0 m pc ls st0) rest (oo_MQv D wc w1 H.size a) (va_A wc H.size)) (hP : va_P D vwCl ws H) (hD : va_D A0 ws) (hS : va_S A0 H0 H locs) (hA : ∀ q, H0.size ≤ q → A0 q)
    (is : List Nat) (hC : is.map (fun i => ws[i]?) = wc.map some) (hF : w1.map (fun q => q.1) = wc.map (fun q => q.1))
    (kk : ∀ (H1 : Heap) (locs1 : List Loc), va_P D vwCl (oo_repl ws is w1) H1 → va_D A0 (oo_repl ws is w1) → va_S A0 H0 H1 locs1 → W p l e R s m args below meth c H1 locs1 cells slots Q (F0 m (pc + 3) ls rest)) : W p l e R s m args below meth c H locs cells slots Q (F0 m pc ls st0) := by
  have hFc := va_free (wc := wc) hD hS hA is hC
  exact va_callv hr hS (fun q _ h => hFc q h) hFc (fun u t H1 locs1 ht hvm hp hb hz hk hS1 => by
    subst ht
    obtain ⟨g1, g2⟩ := oo_world hP hD is hC hF hk hb.1
    exact kk _ locs1 g1 g2 hS1)
/-- what a caller hands to a callee: its cells cut out -/
theorem oo_ps {tys : List (ClassId × FieldType)} {Rc : List (ClassId × FieldType)} {av : List Value} (hP : va_P D vwCl ws H) (hK : va_K D vwCl tys s) (is : List Nat) (hs : is.filterMap (fun i => ws[i]?) = wc) (js : List Nat) (ht : js.filterMap (fun i => tys[i]?) = Rc) :
    ∀ U : State, U.heap = H → s.WarmedH U.vm → va_Pc av (oo_pre D wc Rc) av.toArray U := fun U hU hW => ⟨rfl, by rw [hU]; exact hP.sub is hs, va_K.moved hW.alike (hK.sub js ht)⟩
theorem oo_psM {tys : List (ClassId × FieldType)} {Rc : List (ClassId × FieldType)} {av : List Value} (hP : va_P D vwCl ws H) (hD : va_D A0 ws) (hK : va_K D vwCl tys s) (is : List Nat) (hC : is.map (fun i => ws[i]?) = wc.map some) (hn : va_nd is = true) (js : List Nat) (ht : js.filterMap (fun i => tys[i]?) = Rc) :
    ∀ U : State, U.heap = H → s.WarmedH U.vm → va_Pc av (oo_preM D wc Rc H.size) av.toArray U := fun U hU hW => ⟨rfl, by rw [hU], by
      rw [hU]
      refine hP.sub is ?_
      have h : ∀ (is : List Nat) (wc : va_W), is.map (fun i => ws[i]?) = wc.map some → is.filterMap (fun i => ws[i]?) = wc := by
        intro is
        induction is with
        | nil => intro wc h; cases wc with
          | nil => rfl
          | cons x xs => simp at h
        | cons i is ih => intro wc h; cases wc with
          | nil => simp at h
          | cons x xs =>
            simp only [List.map_cons, List.cons.injEq] at h
            rw [List.filterMap_cons, h.1]
            exact congrArg (x :: ·) (ih xs h.2)
      exact h is wc hC, va_K.moved hW.alike (hK.sub js ht), (hD.sub is hn hC).weaken (fun _ _ _ _ => trivial)⟩
/-- ends of read-only methods -/
theorem ro_reti {x v : Int32} (hx : p.tables.exec = Jvm.exec) (hb : c.code = cc) (hr : meth.sig.returnType = some .int) (hlocks : meth.locks = false) (hS : va_S oo_N s.heap H locs) (he : x = v) (hdg : decode cc pc = .ok (.ireturn, 1)) :
    W p l e R s m args below meth c H locs 0 0 (MQ below (oo_RQi v) args s 0 0 oo_N) (F0 m pc ls [.int x]) := W.iret hx hb hr (fun t ht hW => ⟨⟨x, (), rfl, he, trivial⟩, hS.F ht⟩) hS.2.2 hdg hlocks
theorem ro_retz {x v : Int32} (hx : p.tables.exec = Jvm.exec) (hb : c.code = cc) (hr : meth.sig.returnType = some .boolean) (hlocks : meth.locks = false) (hS : va_S oo_N s.heap H locs) (hn : narrow .boolean (.int x) = .int x) (he : x = v) (hdg : decode cc pc = .ok (.ireturn, 1)) :
    W p l e R s m args below meth c H locs 0 0 (MQ below (oo_RQi v) args s 0 0 oo_N) (F0 m pc ls [.int x]) := W.zret hx hb hr hn (fun t ht hW => ⟨⟨x, (), rfl, he, trivial⟩, hS.F ht⟩) hS.2.2 hdg hlocks
theorem ro_retl {x v : Int64} (hx : p.tables.exec = Jvm.exec) (hb : c.code = cc) (hr : meth.sig.returnType = some .long) (hlocks : meth.locks = false) (hS : va_S oo_N s.heap H locs) (he : x = v) (hdg : decode cc pc = .ok (.lreturn, 1)) :
    W p l e R s m args below meth c H locs 0 0 (MQ below (oo_RQl v) args s 0 0 oo_N) (F0 m pc ls [.long x]) := W.lret hx hb hr (fun t ht hW => ⟨⟨x, (), rfl, he, trivial⟩, hS.F ht⟩) hS.2.2 hdg hlocks
theorem ro_retd {x v : UInt64} (hx : p.tables.exec = Jvm.exec) (hb : c.code = cc) (hr : meth.sig.returnType = some .double) (hlocks : meth.locks = false) (hS : va_S oo_N s.heap H locs) (he : x = v) (hdg : decode cc pc = .ok (.dreturn, 1)) :
    W p l e R s m args below meth c H locs 0 0 (MQ below (oo_RQd v) args s 0 0 oo_N) (F0 m pc ls [.double x]) := W.dret hx hb hr (fun t ht hW => ⟨⟨x, (), rfl, he, trivial⟩, hS.F ht⟩) hS.2.2 hdg hlocks
/-- ends of writing methods -/
theorem mu_reti {ws2 : va_W} {x v : Int32} (hx : p.tables.exec = Jvm.exec) (hb : c.code = cc) (hr : meth.sig.returnType = some .int) (hlocks : meth.locks = false) (hP : va_P D vwCl ws2 H) (hD : va_D (va_A ws s.heap.size) ws2) (hS : va_S (va_A ws s.heap.size) s.heap H locs) (he : x = v) (hdg : decode cc pc = .ok (.ireturn, 1)) :
    W p l e R s m args below meth c H locs 0 0 (MQ below (oo_MQi D ws ws2 s.heap.size v) args s 0 0 (va_A ws s.heap.size)) (F0 m pc ls [.int x]) := W.iret hx hb hr (fun t ht hW => ⟨⟨x, (), rfl, he, by rw [ht]; exact hP, hD⟩, hS.F ht⟩) hS.2.2 hdg hlocks
theorem mu_retl {ws2 : va_W} {x v : Int64} (hx : p.tables.exec = Jvm.exec) (hb : c.code = cc) (hr : meth.sig.returnType = some .long) (hlocks : meth.locks = false) (hP : va_P D vwCl ws2 H) (hD : va_D (va_A ws s.heap.size) ws2) (hS : va_S (va_A ws s.heap.size) s.heap H locs) (he : x = v) (hdg : decode cc pc = .ok (.lreturn, 1)) :
    W p l e R s m args below meth c H locs 0 0 (MQ below (oo_MQl D ws ws2 s.heap.size v) args s 0 0 (va_A ws s.heap.size)) (F0 m pc ls [.long x]) := W.lret hx hb hr (fun t ht hW => ⟨⟨x, (), rfl, he, by rw [ht]; exact hP, hD⟩, hS.F ht⟩) hS.2.2 hdg hlocks
theorem mu_retd {ws2 : va_W} {x v : UInt64} (hx : p.tables.exec = Jvm.exec) (hb : c.code = cc) (hr : meth.sig.returnType = some .double) (hlocks : meth.locks = false) (hP : va_P D vwCl ws2 H) (hD : va_D (va_A ws s.heap.size) ws2) (hS : va_S (va_A ws s.heap.size) s.heap H locs) (he : x = v) (hdg : decode cc pc = .ok (.dreturn, 1)) :
    W p l e R s m args below meth c H locs 0 0 (MQ below (oo_MQd D ws ws2 s.heap.size v) args s 0 0 (va_A ws s.heap.size)) (F0 m pc ls [.double x]) := W.dret hx hb hr (fun t ht hW => ⟨⟨x, (), rfl, he, by rw [ht]; exact hP, hD⟩, hS.F ht⟩) hS.2.2 hdg hlocks
theorem mu_retv {ws2 : va_W} (hx : p.tables.exec = Jvm.exec) (hb : c.code = cc) (hr : meth.sig.returnType = none) (hlocks : meth.locks = false) (hP : va_P D vwCl ws2 H) (hD : va_D (va_A ws s.heap.size) ws2) (hS : va_S (va_A ws s.heap.size) s.heap H locs) (hdg : decode cc pc = .ok (.return_, 1)) :
    W p l e R s m args below meth c H locs 0 0 (MQ below (oo_MQv D ws ws2 s.heap.size) args s 0 0 (va_A ws s.heap.size)) (F0 m pc ls []) := W.vret hx hb hr (fun t ht hW => ⟨⟨(), rfl, trivial, by rw [ht]; exact hP, hD⟩, hS.F ht⟩) hS.2.2 hdg hlocks
end OO
theorem oo_A (ws : va_W) (s : State) : ∀ q : Nat, s.heap.size ≤ q → va_A ws s.heap.size q := fun _ h => Or.inr h
/-- the worlds of the two objects -/
abbrev xW (cJ : ClassId) (h a1 a2 a3 a4 a5 : Nat) (u d lw uw an : Nat → Int64) (fc qc : Int32) (sd : Int64) : va_W := [(h, .inr (0, [.ref a1, .ref a2, .ref a3, .ref a4, .ref a5, .int fc, .int qc, .long sd])), (a1, .inl (cJ, 12, .inr (.inl u))), (a2, .inl (cJ, 12, .inr (.inl d))), (a3, .inl (cJ, 64, .inr (.inl lw))), (a4, .inl (cJ, 64, .inr (.inl uw))), (a5, .inl (cJ, 2560, .inr (.inl an)))]
abbrev mW (cI cZ : ClassId) (h b1 b2 b3 : Nat) (u d tr : Nat → Int32) (fc qc : Int32) (sd : Int64) (th : Int32) : va_W := [(h, .inr (1, [.ref b1, .ref b2, .int fc, .ref b3, .int qc, .long sd, .int th])), (b1, .inl (cI, 12, .inl u)), (b2, .inl (cI, 12, .inl d)), (b3, .inl (cZ, 163840, .inl tr))]
theorem oo_inc (n c : Nat) : nI n + Int32.ofInt (c : Int) = nI (n + c) := by
  rw [← nI_add]; rfl
theorem oo_loop {p : Program} {l : Launch} {e : Env} {R : Room} {s : State} {m : MethodId} {args : Array Value} {below : List Frame} {meth : Method} {c : Code} {H : Heap} {locs : List Loc} {cells slots : Nat} {Q : State → Prop} {pc : Nat} {ls : Array Slot} {st : List Value} {N : Nat}
    (Inv : Nat → Heap → List Loc → Array Slot → Prop) (ex : ∀ (H : Heap) (locs : List Loc) (ls : Array Slot), Inv N H locs ls → W p l e R s m args below meth c H locs cells slots Q (F0 m pc ls st))
    (step : ∀ n : Nat, n < N → (∀ (H : Heap) (locs : List Loc) (ls : Array Slot), Inv (n + 1) H locs ls → W p l e R s m args below meth c H locs cells slots Q (F0 m pc ls st)) → ∀ (H : Heap) (locs : List Loc) (ls : Array Slot), Inv n H locs ls → W p l e R s m args below meth c H locs cells slots Q (F0 m pc ls st))
    (n0 : Nat) (hn : n0 ≤ N) (h0 : Inv n0 H locs ls) : W p l e R s m args below meth c H locs cells slots Q (F0 m pc ls st) := by
  have h : ∀ (k n : Nat), n ≤ N → N - n ≤ k → ∀ (H : Heap) (locs : List Loc) (ls : Array Slot), Inv n H locs ls → W p l e R s m args below meth c H locs cells slots Q (F0 m pc ls st) := by
    intro k
    induction k with
    | zero =>
      intro n h1 h2 H locs ls hI
      have e1 : n = N := by omega
      exact ex H locs ls (e1 ▸ hI)
    | succ k ih =>
      intro n h1 h2 H locs ls hI
      by_cases h3 : n = N
      · exact ex H locs ls (h3 ▸ hI)
      · exact step n (by omega) (fun H locs ls hI => ih (n + 1) (by omega) (by omega) H locs ls hI) H locs ls hI
  exact h (N - n0) n0 hn (Nat.le_refl _) H locs ls h0
theorem oo_Dre {A : Nat → Prop} {ws ws2 : va_W} (h : va_D A ws) (e : ws2.map (fun q => q.1) = ws.map (fun q => q.1)) : va_D A ws2 := by
  have old : ∀ (k : Nat) (q : Nat × va_E), ws2[k]? = some q → ∃ r, ws[k]? = some r ∧ r.1 = q.1 := by
    intro k q hq
    have h1 : (ws2.map (fun q => q.1))[k]? = some q.1 := by rw [List.getElem?_map, hq]; rfl
    rw [e, List.getElem?_map] at h1
    cases hw : ws[k]? with
    | none => rw [hw] at h1; cases h1
    | some r => rw [hw] at h1; exact ⟨r, rfl, Option.some.inj h1⟩
  refine ⟨fun i j p q hi hj hpq => ?_, fun k q hq => ?_⟩
  · obtain ⟨r1, g1, e1⟩ := old i p hi
    obtain ⟨r2, g2, e2⟩ := old j q hj
    exact h.1 i j r1 r2 g1 g2 (by rw [e1, e2]; exact hpq)
  · obtain ⟨r, g, e1⟩ := old k q hq
    rw [← e1]
    exact h.2 k r g
theorem oo_fc {a : Nat} {x y : va_E} {xs ys : va_W} (h : List.map (fun q : Nat × va_E => q.1) xs = List.map (fun q : Nat × va_E => q.1) ys) : List.map (fun q : Nat × va_E => q.1) ((a, x) :: xs) = List.map (fun q : Nat × va_E => q.1) ((a, y) :: ys) := congrArg (a :: ·) h
end
section
theorem oo_in {i : Int32} {n : Nat} (hn : n < 2 ^ 31) (h1 : ¬ i < 0) (h2 : ¬ nI n ≤ i) : vp_in i n := by
  obtain ⟨j, h3, rfl, -⟩ := pk_mu h1 h2 hn
  exact vp_in_nI h3 hn
theorem ok_X0_put : yX0_put.cls ≠ "java/lang/invoke/MethodHandle" ∧ yX0_put.cls ≠ "java/lang/invoke/VarHandle" ∧ (parseMethodDescriptor yX0_put.desc).map (fun d => d.parameters.length) = some 3 := by decide +kernel
def kvX0_put_c0 (n : Nat) (f : Nat → Int64) (i : Int32) (v : Int64) : Nat → Int64 := if i < 0 then f else (if (nI n) ≤ i then f else (vp_updL f i.toNatClampNeg v))
set_option maxHeartbeats 4000000 in
set_option maxRecDepth 100000 in
theorem kX0_put (l : Launch) (D : va_G) (cJ : ClassId) (a n : Nat) (f : Nat → Int64) (i : Int32) (v : Int64) (hn : n < 2 ^ 31) : MuV l yX0_put wsX0_put ({ frames := 0, cells := 0, slots := 0, locals := 0 } : Room) [.ref a, .int i, .long v] D ([(a, .inl (cJ, n, .inr (.inl f)))]) [(cJ, .long)] ([(a, .inl (cJ, n, .inr (.inl (kvX0_put_c0 n f i v))))]) := by
  intro sz
  refine oo_head (C := RX0) (cc := cX0_put) (maxL := 4) (ret := none) (by decide) rfl rfl (Nat.le_of_ble_eq_true rfl) ?_
  intro p e s m below meth c hx hb hr hlocks hml hown hnm hts hpre ls hl
  have hl : lv_has ls 4 [(0, .ref a), (1, .int i), (2, .long v)] := hl
  obtain ⟨rfl, hP, hK, hD0⟩ := hpre
  have hD := hD0.self (sz := s.heap.size)
  have hA := oo_A ([(a, .inl (cJ, n, .inr (.inl f)))]) s
  have hS : va_S (va_A ([(a, .inl (cJ, n, .inr (.inl f)))]) s.heap.size) s.heap s.heap [] := va_S.rf
  refine lv_aload_n hx hb dX0_put_0 rfl (lv_at hl 0 rfl) ?_
  refine lv_ifnull hx hb dX0_put_1 ?_
  refine lv_iload_n hx hb dX0_put_4 rfl (lv_at hl 1 rfl) ?_
  refine lv_if_lt (tgt := 18) hx hb dX0_put_5 (by decide) (fun c_5 => ?_) (fun c_5 => ?_)
  · have hP := Eq.mp (congrArg (fun z9 => va_P D vwCl ([(a, .inl (cJ, n, .inr (.inl z9)))]) s.heap) (show f = kvX0_put_c0 n f i v from (by unfold kvX0_put_c0; rw [if_pos c_5]))) hP
    have hP : va_P D vwCl ([(a, .inl (cJ, n, .inr (.inl (kvX0_put_c0 n f i v))))]) s.heap := hP
    have hD : va_D _ ([(a, .inl (cJ, n, .inr (.inl (kvX0_put_c0 n f i v))))]) := oo_Dre hD rfl
    exact mu_retv hx hb hr hlocks hP hD hS dX0_put_18
  · refine lv_iload_n hx hb dX0_put_8 rfl (lv_at hl 1 rfl) ?_
    refine lv_aload_n hx hb dX0_put_9 rfl (lv_at hl 0 rfl) ?_
    refine va_alen (v := nI n) hx hb hK hP 0 0 rfl rfl rfl dX0_put_10 ?_
    refine lv_icmp_ge (tgt := 18) hx hb dX0_put_11 (by decide) (fun c_11 => ?_) (fun c_11 => ?_)
    · have hP := Eq.mp (congrArg (fun z9 => va_P D vwCl ([(a, .inl (cJ, n, .inr (.inl z9)))]) s.heap) (show f = kvX0_put_c0 n f i v from (by unfold kvX0_put_c0; rw [if_neg c_5, if_pos c_11]))) hP
      have hP : va_P D vwCl ([(a, .inl (cJ, n, .inr (.inl (kvX0_put_c0 n f i v))))]) s.heap := hP
      have hD : va_D _ ([(a, .inl (cJ, n, .inr (.inl (kvX0_put_c0 n f i v))))]) := oo_Dre hD rfl
      exact mu_retv hx hb hr hlocks hP hD hS dX0_put_18
    · refine lv_aload_n hx hb dX0_put_14 rfl (lv_at hl 0 rfl) ?_
      refine lv_iload_n hx hb dX0_put_15 rfl (lv_at hl 1 rfl) ?_
      refine lv_lload_n hx hb dX0_put_16 rfl (lv_at hl 2 rfl) ?_
      refine va_last hx hb hK hP hD hS 0 0 rfl rfl (oo_in hn c_5 c_11) dX0_put_17 (fun H locs hP hD hS => ?_)
      have hP : va_P D vwCl ([(a, .inl (cJ, n, .inr (.inl (vp_updL f i.toNatClampNeg v))))]) H := hP
      have hD : va_D _ ([(a, .inl (cJ, n, .inr (.inl (vp_updL f i.toNatClampNeg v))))]) := hD
      have hP := Eq.mp (congrArg (fun z9 => va_P D vwCl ([(a, .inl (cJ, n, .inr (.inl z9)))]) H) (show vp_updL f i.toNatClampNeg v = kvX0_put_c0 n f i v from (by unfold kvX0_put_c0; rw [if_neg c_5, if_neg c_11]))) hP
      have hP : va_P D vwCl ([(a, .inl (cJ, n, .inr (.inl (kvX0_put_c0 n f i v))))]) H := hP
      have hD : va_D _ ([(a, .inl (cJ, n, .inr (.inl (kvX0_put_c0 n f i v))))]) := oo_Dre hD rfl
      exact mu_retv hx hb hr hlocks hP hD hS dX0_put_18
theorem ok_X0_at : yX0_at.cls ≠ "java/lang/invoke/MethodHandle" ∧ yX0_at.cls ≠ "java/lang/invoke/VarHandle" ∧ (parseMethodDescriptor yX0_at.desc).map (fun d => d.parameters.length) = some 2 := by decide +kernel
def kvX0_at (n : Nat) (f : Nat → Int64) (i : Int32) : Int64 := if i < 0 then (0 : Int64) else (if (nI n) ≤ i then (0 : Int64) else (f i.toNatClampNeg))
set_option maxHeartbeats 4000000 in
set_option maxRecDepth 100000 in
theorem kX0_at (l : Launch) (D : va_G) (cJ : ClassId) (a n : Nat) (f : Nat → Int64) (i : Int32) (hn : n < 2 ^ 31) : RoL l yX0_at wsX0_at ({ frames := 0, cells := 0, slots := 0, locals := 0 } : Room) [.ref a, .int i] D ([(a, .inl (cJ, n, .inr (.inl f)))]) [(cJ, .long)] (kvX0_at n f i) := by
  refine oo_head (C := RX0) (cc := cX0_at) (maxL := 2) (ret := (some .long)) (by decide) rfl rfl (Nat.le_of_ble_eq_true rfl) ?_
  intro p e s m below meth c hx hb hr hlocks hml hown hnm hts hpre ls hl
  have hl : lv_has ls 2 [(0, .ref a), (1, .int i)] := hl
  obtain ⟨hP, hK⟩ := hpre
  have hS : va_S oo_N s.heap s.heap [] := va_S.rf
  refine lv_aload_n hx hb dX0_at_0 rfl (lv_at hl 0 rfl) ?_
  refine lv_ifnull hx hb dX0_at_1 ?_
  refine lv_iload_n hx hb dX0_at_4 rfl (lv_at hl 1 rfl) ?_
  refine lv_if_lt (tgt := 20) hx hb dX0_at_5 (by decide) (fun c_5 => ?_) (fun c_5 => ?_)
  · refine lv_lconst (v := (0 : Int64)) hx hb dX0_at_20 (by decide) ?_
    exact ro_retl hx hb hr hlocks hS (by unfold kvX0_at; rw [if_pos c_5]) dX0_at_21
  · refine lv_iload_n hx hb dX0_at_8 rfl (lv_at hl 1 rfl) ?_
    refine lv_aload_n hx hb dX0_at_9 rfl (lv_at hl 0 rfl) ?_
    refine va_alen (v := nI n) hx hb hK hP 0 0 rfl rfl rfl dX0_at_10 ?_
    refine lv_icmp_ge (tgt := 20) hx hb dX0_at_11 (by decide) (fun c_11 => ?_) (fun c_11 => ?_)
    · refine lv_lconst (v := (0 : Int64)) hx hb dX0_at_20 (by decide) ?_
      exact ro_retl hx hb hr hlocks hS (by unfold kvX0_at; rw [if_neg c_5, if_pos c_11]) dX0_at_21
    · refine lv_aload_n hx hb dX0_at_14 rfl (lv_at hl 0 rfl) ?_
      refine lv_iload_n hx hb dX0_at_15 rfl (lv_at hl 1 rfl) ?_
      refine va_lald hx hb hK hP 0 0 rfl rfl (oo_in hn c_5 c_11) dX0_at_16 ?_
      refine lv_goto (tgt := 21) hx hb dX0_at_17 (by decide) ?_
      exact ro_retl hx hb hr hlocks hS (by unfold kvX0_at; rw [if_neg c_5, if_neg c_11]) dX0_at_21
theorem ok_X0_isBitOn : yX0_isBitOn.cls ≠ "java/lang/invoke/MethodHandle" ∧ yX0_isBitOn.cls ≠ "java/lang/invoke/VarHandle" ∧ (parseMethodDescriptor yX0_isBitOn.desc).map (fun d => d.parameters.length) = some 2 := by decide +kernel
def kvX0_isBitOn (b : Int64) (i : Int32) : Int32 := if (lg_cmp (((b.toUInt64 >>> (i.toInt64.toUInt64 &&& Int64.toUInt64 63)).toInt64) &&& (1 : Int64)) (0 : Int64)) = 0 then (0 : Int32) else (1 : Int32)
set_option maxHeartbeats 4000000 in
set_option maxRecDepth 100000 in
theorem kX0_isBitOn (l : Launch) (D : va_G) (b : Int64) (i : Int32) : RoI l yX0_isBitOn wsX0_isBitOn ({ frames := 0, cells := 0, slots := 0, locals := 0 } : Room) [.long b, .int i] D ([]) [] (kvX0_isBitOn b i) := by
  refine oo_head (C := RX0) (cc := cX0_isBitOn) (maxL := 3) (ret := (some .boolean)) (by decide) rfl rfl (Nat.le_of_ble_eq_true rfl) ?_
  intro p e s m below meth c hx hb hr hlocks hml hown hnm hts hpre ls hl
  have hl : lv_has ls 3 [(0, .long b), (2, .int i)] := hl
  obtain ⟨hP, hK⟩ := hpre
  have hS : va_S oo_N s.heap s.heap [] := va_S.rf
  refine lv_lload_n hx hb dX0_isBitOn_0 rfl (lv_at hl 0 rfl) ?_
  refine lv_iload_n hx hb dX0_isBitOn_1 rfl (lv_at hl 1 rfl) ?_
  refine lv_lushr hx hb dX0_isBitOn_2 rfl ?_
  refine lv_lconst (v := (1 : Int64)) hx hb dX0_isBitOn_3 (by decide) ?_
  refine lv_land hx hb dX0_isBitOn_4 ?_
  refine lv_lconst (v := (0 : Int64)) hx hb dX0_isBitOn_5 (by decide) ?_
  refine W.lcmp hx hb dX0_isBitOn_6 ?_
  refine lv_if_eq (tgt := 14) hx hb dX0_isBitOn_7 (by decide) (fun c_7 => ?_) (fun c_7 => ?_)
  · refine lv_iconst (v := (0 : Int32)) hx hb dX0_isBitOn_14 (by decide) ?_
    exact ro_retz hx hb hr hlocks hS rfl (by unfold kvX0_isBitOn; rw [if_pos c_7]) dX0_isBitOn_15
  · refine lv_iconst (v := (1 : Int32)) hx hb dX0_isBitOn_10 (by decide) ?_
    refine lv_goto (tgt := 15) hx hb dX0_isBitOn_11 (by decide) ?_
    exact ro_retz hx hb hr hlocks hS rfl (by unfold kvX0_isBitOn; rw [if_neg c_7]) dX0_isBitOn_15
theorem ok_X0_areOdds : yX0_areOdds.cls ≠ "java/lang/invoke/MethodHandle" ∧ yX0_areOdds.cls ≠ "java/lang/invoke/VarHandle" ∧ (parseMethodDescriptor yX0_areOdds.desc).map (fun d => d.parameters.length) = some 2 := by decide +kernel
def kvX0_areOdds (up : Int32) (dn : Int32) : Int32 := if dn < (1 : Int32) then (0 : Int32) else (if (nI 8) < dn then (0 : Int32) else (if up < 0 then (0 : Int32) else (if dn < up then (0 : Int32) else (1 : Int32))))
set_option maxHeartbeats 4000000 in
set_option maxRecDepth 100000 in
theorem kX0_areOdds (l : Launch) (D : va_G) (up : Int32) (dn : Int32) : RoI l yX0_areOdds wsX0_areOdds ({ frames := 0, cells := 0, slots := 0, locals := 0 } : Room) [.int up, .int dn] D ([]) [] (kvX0_areOdds up dn) := by
  refine oo_head (C := RX0) (cc := cX0_areOdds) (maxL := 2) (ret := (some .boolean)) (by decide) rfl rfl (Nat.le_of_ble_eq_true rfl) ?_
  intro p e s m below meth c hx hb hr hlocks hml hown hnm hts hpre ls hl
  have hl : lv_has ls 2 [(0, .int up), (1, .int dn)] := hl
  obtain ⟨hP, hK⟩ := hpre
  have hS : va_S oo_N s.heap s.heap [] := va_S.rf
  refine lv_iload_n hx hb dX0_areOdds_0 rfl (lv_at hl 1 rfl) ?_
  refine lv_iconst (v := (1 : Int32)) hx hb dX0_areOdds_1 (by decide) ?_
  refine lv_icmp_lt (tgt := 24) hx hb dX0_areOdds_2 (by decide) (fun c_2 => ?_) (fun c_2 => ?_)
  · refine lv_iconst (v := (0 : Int32)) hx hb dX0_areOdds_24 (by decide) ?_
    exact ro_retz hx hb hr hlocks hS rfl (by unfold kvX0_areOdds; rw [if_pos c_2]) dX0_areOdds_25
  · refine lv_iload_n hx hb dX0_areOdds_5 rfl (lv_at hl 1 rfl) ?_
    refine lv_bipush (v := nI 8) hx hb dX0_areOdds_6 (by decide) ?_
    refine lv_icmp_gt (tgt := 24) hx hb dX0_areOdds_8 (by decide) (fun c_8 => ?_) (fun c_8 => ?_)
    · refine lv_iconst (v := (0 : Int32)) hx hb dX0_areOdds_24 (by decide) ?_
      exact ro_retz hx hb hr hlocks hS rfl (by unfold kvX0_areOdds; rw [if_neg c_2, if_pos c_8]) dX0_areOdds_25
    · refine lv_iload_n hx hb dX0_areOdds_11 rfl (lv_at hl 0 rfl) ?_
      refine lv_if_lt (tgt := 24) hx hb dX0_areOdds_12 (by decide) (fun c_12 => ?_) (fun c_12 => ?_)
      · refine lv_iconst (v := (0 : Int32)) hx hb dX0_areOdds_24 (by decide) ?_
        exact ro_retz hx hb hr hlocks hS rfl (by unfold kvX0_areOdds; rw [if_neg c_2, if_neg c_8, if_pos c_12]) dX0_areOdds_25
      · refine lv_iload_n hx hb dX0_areOdds_15 rfl (lv_at hl 0 rfl) ?_
        refine lv_iload_n hx hb dX0_areOdds_16 rfl (lv_at hl 1 rfl) ?_
        refine lv_icmp_gt (tgt := 24) hx hb dX0_areOdds_17 (by decide) (fun c_17 => ?_) (fun c_17 => ?_)
        · refine lv_iconst (v := (0 : Int32)) hx hb dX0_areOdds_24 (by decide) ?_
          exact ro_retz hx hb hr hlocks hS rfl (by unfold kvX0_areOdds; rw [if_neg c_2, if_neg c_8, if_neg c_12, if_pos c_17]) dX0_areOdds_25
        · refine lv_iconst (v := (1 : Int32)) hx hb dX0_areOdds_20 (by decide) ?_
          refine lv_goto (tgt := 25) hx hb dX0_areOdds_21 (by decide) ?_
          exact ro_retz hx hb hr hlocks hS rfl (by unfold kvX0_areOdds; rw [if_neg c_2, if_neg c_8, if_neg c_12, if_neg c_17]) dX0_areOdds_25
theorem ok_X0_isPart : yX0_isPart.cls ≠ "java/lang/invoke/MethodHandle" ∧ yX0_isPart.cls ≠ "java/lang/invoke/VarHandle" ∧ (parseMethodDescriptor yX0_isPart.desc).map (fun d => d.parameters.length) = some 1 := by decide +kernel
def kvX0_isPart (pt : Int32) : Int32 := if pt = 0 then (1 : Int32) else (if pt = (1 : Int32) then (1 : Int32) else (0 : Int32))
set_option maxHeartbeats 4000000 in
set_option maxRecDepth 100000 in
theorem kX0_isPart (l : Launch) (D : va_G) (pt : Int32) : RoI l yX0_isPart wsX0_isPart ({ frames := 0, cells := 0, slots := 0, locals := 0 } : Room) [.int pt] D ([]) [] (kvX0_isPart pt) := by
  refine oo_head (C := RX0) (cc := cX0_isPart) (maxL := 1) (ret := (some .boolean)) (by decide) rfl rfl (Nat.le_of_ble_eq_true rfl) ?_
  intro p e s m below meth c hx hb hr hlocks hml hown hnm hts hpre ls hl
  have hl : lv_has ls 1 [(0, .int pt)] := hl
  obtain ⟨hP, hK⟩ := hpre
  have hS : va_S oo_N s.heap s.heap [] := va_S.rf
  refine lv_iload_n hx hb dX0_isPart_0 rfl (lv_at hl 0 rfl) ?_
  refine lv_if_eq (tgt := 9) hx hb dX0_isPart_1 (by decide) (fun c_1 => ?_) (fun c_1 => ?_)
  · refine lv_iconst (v := (1 : Int32)) hx hb dX0_isPart_9 (by decide) ?_
    refine lv_goto (tgt := 14) hx hb dX0_isPart_10 (by decide) ?_
    exact ro_retz hx hb hr hlocks hS rfl (by unfold kvX0_isPart; rw [if_pos c_1]) dX0_isPart_14
  · refine lv_iload_n hx hb dX0_isPart_4 rfl (lv_at hl 0 rfl) ?_
    refine lv_iconst (v := (1 : Int32)) hx hb dX0_isPart_5 (by decide) ?_
    refine lv_icmp_ne (tgt := 13) hx hb dX0_isPart_6 (by decide) (fun c_6 => ?_) (fun c_6 => ?_)
    · refine lv_iconst (v := (0 : Int32)) hx hb dX0_isPart_13 (by decide) ?_
      exact ro_retz hx hb hr hlocks hS rfl (by unfold kvX0_isPart; rw [if_neg c_1, if_neg c_6]) dX0_isPart_14
    · refine lv_iconst (v := (1 : Int32)) hx hb dX0_isPart_9 (by decide) ?_
      refine lv_goto (tgt := 14) hx hb dX0_isPart_10 (by decide) ?_
      exact ro_retz hx hb hr hlocks hS rfl (by unfold kvX0_isPart; rw [if_neg c_1, if_pos c_6]) dX0_isPart_14
theorem ok_X0_isFact : yX0_isFact.cls = RX0 ∧ yX0_isFact.cls ≠ "java/lang/invoke/MethodHandle" ∧ yX0_isFact.cls ≠ "java/lang/invoke/VarHandle" ∧ (parseMethodDescriptor yX0_isFact.desc).map (fun d => d.parameters.length) = some 1 := by decide +kernel
def kvX0_isFact (fn : Nat) (k : Int32) : Int32 := if k < 0 then (0 : Int32) else (if (nI fn) ≤ k then (0 : Int32) else (1 : Int32))
set_option maxHeartbeats 4000000 in
set_option maxRecDepth 100000 in
theorem kX0_isFact (l : Launch) (D : va_G) (cJ : ClassId) (h a1 a2 a3 a4 a5 : Nat) (u d lw uw an : Nat → Int64) (fn qn : Nat) (sd : Int64) (k : Int32) : RoI l yX0_isFact wsX0_isFact ({ frames := 0, cells := 0, slots := 0, locals := 0 } : Room) [.ref h, .int k] D (xW cJ h a1 a2 a3 a4 a5 u d lw uw an (nI fn) (nI qn) sd) [(cJ, .long)] (kvX0_isFact fn k) := by
  refine oo_head (C := RX0) (cc := cX0_isFact) (maxL := 2) (ret := (some .boolean)) (by decide) rfl rfl (Nat.le_of_ble_eq_true rfl) ?_
  intro p e s m below meth c hx hb hr hlocks hml hown hnm hts hpre ls hl
  have hl : lv_has ls 2 [(0, .ref h), (1, .int k)] := hl
  obtain ⟨hP, hK⟩ := hpre
  have hS : va_S oo_N s.heap s.heap [] := va_S.rf
  have hin : ∀ w ∈ wsX00, w ∈ wsX0_isFact := fun w h => List.mem_cons_of_mem _ (List.mem_append_right _ h)
  refine lv_iload_n hx hb dX0_isFact_0 rfl (lv_at hl 1 rfl) ?_
  refine lv_if_lt (tgt := 16) hx hb dX0_isFact_1 (by decide) (fun c_1 => ?_) (fun c_1 => ?_)
  · refine lv_iconst (v := (0 : Int32)) hx hb dX0_isFact_16 (by decide) ?_
    exact ro_retz hx hb hr hlocks hS rfl (by unfold kvX0_isFact; rw [if_pos c_1]) dX0_isFact_17
  · refine lv_iload_n hx hb dX0_isFact_4 rfl (lv_at hl 1 rfl) ?_
    refine lv_aload_n hx hb dX0_isFact_5 rfl (lv_at hl 0 rfl) ?_
    refine va_get (D := D) (ci := 0) (v := .int (nI fn)) (C := RX0) (T := TX0) (N := 8) hx hb hts hin hown hK hP 0 rfl rfl 5 (by decide) (hts (.fieldLink RX0 25 "OddsSampling" "factCount" "I") (by decide +kernel)) (fun _ h9 => h9) rfl dX0_isFact_6 ?_
    refine lv_icmp_ge (tgt := 16) hx hb dX0_isFact_9 (by decide) (fun c_9 => ?_) (fun c_9 => ?_)
    · refine lv_iconst (v := (0 : Int32)) hx hb dX0_isFact_16 (by decide) ?_
      exact ro_retz hx hb hr hlocks hS rfl (by unfold kvX0_isFact; rw [if_neg c_1, if_pos c_9]) dX0_isFact_17
    · refine lv_iconst (v := (1 : Int32)) hx hb dX0_isFact_12 (by decide) ?_
      refine lv_goto (tgt := 17) hx hb dX0_isFact_13 (by decide) ?_
      exact ro_retz hx hb hr hlocks hS rfl (by unfold kvX0_isFact; rw [if_neg c_1, if_neg c_9]) dX0_isFact_17
theorem ok_X0_isQuestion : yX0_isQuestion.cls = RX0 ∧ yX0_isQuestion.cls ≠ "java/lang/invoke/MethodHandle" ∧ yX0_isQuestion.cls ≠ "java/lang/invoke/VarHandle" ∧ (parseMethodDescriptor yX0_isQuestion.desc).map (fun d => d.parameters.length) = some 1 := by decide +kernel
def kvX0_isQuestion (qn : Nat) (q : Int32) : Int32 := if q < 0 then (0 : Int32) else (if (nI qn) ≤ q then (0 : Int32) else (1 : Int32))
set_option maxHeartbeats 4000000 in
set_option maxRecDepth 100000 in
theorem kX0_isQuestion (l : Launch) (D : va_G) (cJ : ClassId) (h a1 a2 a3 a4 a5 : Nat) (u d lw uw an : Nat → Int64) (fn qn : Nat) (sd : Int64) (q : Int32) : RoI l yX0_isQuestion wsX0_isQuestion ({ frames := 0, cells := 0, slots := 0, locals := 0 } : Room) [.ref h, .int q] D (xW cJ h a1 a2 a3 a4 a5 u d lw uw an (nI fn) (nI qn) sd) [(cJ, .long)] (kvX0_isQuestion qn q) := by
  refine oo_head (C := RX0) (cc := cX0_isQuestion) (maxL := 2) (ret := (some .boolean)) (by decide) rfl rfl (Nat.le_of_ble_eq_true rfl) ?_
  intro p e s m below meth c hx hb hr hlocks hml hown hnm hts hpre ls hl
  have hl : lv_has ls 2 [(0, .ref h), (1, .int q)] := hl
  obtain ⟨hP, hK⟩ := hpre
  have hS : va_S oo_N s.heap s.heap [] := va_S.rf
  have hin : ∀ w ∈ wsX00, w ∈ wsX0_isQuestion := fun w h => List.mem_cons_of_mem _ (List.mem_append_right _ h)
  refine lv_iload_n hx hb dX0_isQuestion_0 rfl (lv_at hl 1 rfl) ?_
  refine lv_if_lt (tgt := 16) hx hb dX0_isQuestion_1 (by decide) (fun c_1 => ?_) (fun c_1 => ?_)
  · refine lv_iconst (v := (0 : Int32)) hx hb dX0_isQuestion_16 (by decide) ?_
    exact ro_retz hx hb hr hlocks hS rfl (by unfold kvX0_isQuestion; rw [if_pos c_1]) dX0_isQuestion_17
  · refine lv_iload_n hx hb dX0_isQuestion_4 rfl (lv_at hl 1 rfl) ?_
    refine lv_aload_n hx hb dX0_isQuestion_5 rfl (lv_at hl 0 rfl) ?_
    refine va_get (D := D) (ci := 0) (v := .int (nI qn)) (C := RX0) (T := TX0) (N := 8) hx hb hts hin hown hK hP 0 rfl rfl 6 (by decide) (hts (.fieldLink RX0 29 "OddsSampling" "questionCount" "I") (by decide +kernel)) (fun _ h9 => h9) rfl dX0_isQuestion_6 ?_
    refine lv_icmp_ge (tgt := 16) hx hb dX0_isQuestion_9 (by decide) (fun c_9 => ?_) (fun c_9 => ?_)
    · refine lv_iconst (v := (0 : Int32)) hx hb dX0_isQuestion_16 (by decide) ?_
      exact ro_retz hx hb hr hlocks hS rfl (by unfold kvX0_isQuestion; rw [if_neg c_1, if_pos c_9]) dX0_isQuestion_17
    · refine lv_iconst (v := (1 : Int32)) hx hb dX0_isQuestion_12 (by decide) ?_
      refine lv_goto (tgt := 17) hx hb dX0_isQuestion_13 (by decide) ?_
      exact ro_retz hx hb hr hlocks hS rfl (by unfold kvX0_isQuestion; rw [if_neg c_1, if_neg c_9]) dX0_isQuestion_17
theorem ok_X0_isFull : yX0_isFull.cls = RX0 ∧ yX0_isFull.cls ≠ "java/lang/invoke/MethodHandle" ∧ yX0_isFull.cls ≠ "java/lang/invoke/VarHandle" ∧ (parseMethodDescriptor yX0_isFull.desc).map (fun d => d.parameters.length) = some 0 := by decide +kernel
def kvX0_isFull (qn : Nat) : Int32 := if (nI qn) < (nI 40) then (0 : Int32) else (1 : Int32)
set_option maxHeartbeats 4000000 in
set_option maxRecDepth 100000 in
theorem kX0_isFull (l : Launch) (D : va_G) (cJ : ClassId) (h a1 a2 a3 a4 a5 : Nat) (u d lw uw an : Nat → Int64) (fn qn : Nat) (sd : Int64)  : RoI l yX0_isFull wsX0_isFull ({ frames := 0, cells := 0, slots := 0, locals := 0 } : Room) [.ref h] D (xW cJ h a1 a2 a3 a4 a5 u d lw uw an (nI fn) (nI qn) sd) [(cJ, .long)] (kvX0_isFull qn) := by
  refine oo_head (C := RX0) (cc := cX0_isFull) (maxL := 1) (ret := (some .boolean)) (by decide) rfl rfl (Nat.le_of_ble_eq_true rfl) ?_
  intro p e s m below meth c hx hb hr hlocks hml hown hnm hts hpre ls hl
  have hl : lv_has ls 1 [(0, .ref h)] := hl
  obtain ⟨hP, hK⟩ := hpre
  have hS : va_S oo_N s.heap s.heap [] := va_S.rf
  have hin : ∀ w ∈ wsX00, w ∈ wsX0_isFull := fun w h => List.mem_cons_of_mem _ (List.mem_append_right _ h)
  refine lv_aload_n hx hb dX0_isFull_0 rfl (lv_at hl 0 rfl) ?_
  refine va_get (D := D) (ci := 0) (v := .int (nI qn)) (C := RX0) (T := TX0) (N := 8) hx hb hts hin hown hK hP 0 rfl rfl 6 (by decide) (hts (.fieldLink RX0 29 "OddsSampling" "questionCount" "I") (by decide +kernel)) (fun _ h9 => h9) rfl dX0_isFull_1 ?_
  refine lv_bipush (v := nI 40) hx hb dX0_isFull_4 (by decide) ?_
  refine lv_icmp_lt (tgt := 13) hx hb dX0_isFull_6 (by decide) (fun c_6 => ?_) (fun c_6 => ?_)
  · refine lv_iconst (v := (0 : Int32)) hx hb dX0_isFull_13 (by decide) ?_
    exact ro_retz hx hb hr hlocks hS rfl (by unfold kvX0_isFull; rw [if_pos c_6]) dX0_isFull_14
  · refine lv_iconst (v := (1 : Int32)) hx hb dX0_isFull_9 (by decide) ?_
    refine lv_goto (tgt := 14) hx hb dX0_isFull_10 (by decide) ?_
    exact ro_retz hx hb hr hlocks hS rfl (by unfold kvX0_isFull; rw [if_neg c_6]) dX0_isFull_14
theorem ok_X0_allFacts : yX0_allFacts.cls = RX0 ∧ yX0_allFacts.cls ≠ "java/lang/invoke/MethodHandle" ∧ yX0_allFacts.cls ≠ "java/lang/invoke/VarHandle" ∧ (parseMethodDescriptor yX0_allFacts.desc).map (fun d => d.parameters.length) = some 0 := by decide +kernel
def kvX0_allFacts (fn : Nat) : Int32 := ((1 : Int32) <<< ((nI fn) &&& 31)) - (1 : Int32)
set_option maxHeartbeats 4000000 in
set_option maxRecDepth 100000 in
theorem kX0_allFacts (l : Launch) (D : va_G) (cJ : ClassId) (h a1 a2 a3 a4 a5 : Nat) (u d lw uw an : Nat → Int64) (fn qn : Nat) (sd : Int64)  : RoI l yX0_allFacts wsX0_allFacts ({ frames := 0, cells := 0, slots := 0, locals := 0 } : Room) [.ref h] D (xW cJ h a1 a2 a3 a4 a5 u d lw uw an (nI fn) (nI qn) sd) [(cJ, .long)] (kvX0_allFacts fn) := by
  refine oo_head (C := RX0) (cc := cX0_allFacts) (maxL := 1) (ret := (some .int)) (by decide) rfl rfl (Nat.le_of_ble_eq_true rfl) ?_
  intro p e s m below meth c hx hb hr hlocks hml hown hnm hts hpre ls hl
  have hl : lv_has ls 1 [(0, .ref h)] := hl
  obtain ⟨hP, hK⟩ := hpre
  have hS : va_S oo_N s.heap s.heap [] := va_S.rf
  have hin : ∀ w ∈ wsX00, w ∈ wsX0_allFacts := fun w h => List.mem_cons_of_mem _ (List.mem_append_right _ h)
  refine lv_iconst (v := (1 : Int32)) hx hb dX0_allFacts_0 (by decide) ?_
  refine lv_aload_n hx hb dX0_allFacts_1 rfl (lv_at hl 0 rfl) ?_
  refine va_get (D := D) (ci := 0) (v := .int (nI fn)) (C := RX0) (T := TX0) (N := 8) hx hb hts hin hown hK hP 0 rfl rfl 5 (by decide) (hts (.fieldLink RX0 25 "OddsSampling" "factCount" "I") (by decide +kernel)) (fun _ h9 => h9) rfl dX0_allFacts_2 ?_
  refine lv_ishl hx hb dX0_allFacts_5 ?_
  refine lv_iconst (v := (1 : Int32)) hx hb dX0_allFacts_6 (by decide) ?_
  refine lv_isub hx hb dX0_allFacts_7 ?_
  exact ro_reti hx hb hr hlocks hS (by unfold kvX0_allFacts; rfl) dX0_allFacts_8
theorem ok_X0_areFacts : yX0_areFacts.cls = RX0 ∧ yX0_areFacts.cls ≠ "java/lang/invoke/MethodHandle" ∧ yX0_areFacts.cls ≠ "java/lang/invoke/VarHandle" ∧ (parseMethodDescriptor yX0_areFacts.desc).map (fun d => d.parameters.length) = some 1 := by decide +kernel
def kvX0_areFacts (fn : Nat) (bs : Int32) : Int32 := if (bs &&& ((kvX0_allFacts fn) ^^^ (-1 : Int32))) = 0 then (1 : Int32) else (0 : Int32)
set_option maxHeartbeats 4000000 in
set_option maxRecDepth 100000 in
theorem kX0_areFacts (l : Launch) (D : va_G) (cJ : ClassId) (h a1 a2 a3 a4 a5 : Nat) (u d lw uw an : Nat → Int64) (fn qn : Nat) (sd : Int64) (bs : Int32) : RoI l yX0_areFacts wsX0_areFacts ({ frames := 1, cells := 0, slots := 0, locals := 20 } : Room) [.ref h, .int bs] D (xW cJ h a1 a2 a3 a4 a5 u d lw uw an (nI fn) (nI qn) sd) [(cJ, .long)] (kvX0_areFacts fn bs) := by
  refine oo_head (C := RX0) (cc := cX0_areFacts) (maxL := 2) (ret := (some .boolean)) (by decide) rfl rfl (Nat.le_of_ble_eq_true rfl) ?_
  intro p e s m below meth c hx hb hr hlocks hml hown hnm hts hpre ls hl
  have hl : lv_has ls 2 [(0, .ref h), (1, .int bs)] := hl
  obtain ⟨hP, hK⟩ := hpre
  have hS : va_S oo_N s.heap s.heap [] := va_S.rf
  have hin : ∀ w ∈ wsX00, w ∈ wsX0_areFacts := fun w h => List.mem_cons_of_mem _ (List.mem_append_right _ h)
  refine lv_iload_n hx hb dX0_areFacts_0 rfl (lv_at hl 1 rfl) ?_
  refine lv_aload_n hx hb dX0_areFacts_1 rfl (lv_at hl 0 rfl) ?_
  refine ro_calli (va_runV (As := []) (rest := [.int bs]) ⟨hx, hb, hml, hown, hts⟩ (kX0_allFacts l D cJ h a1 a2 a3 a4 a5 u d lw uw an fn qn sd) (cwV 0 hts gX0_areFacts_X0_allFacts rfl rfl rfl ok_X0_allFacts ⟨Nat.le_of_ble_eq_true rfl, Nat.le_of_ble_eq_true rfl⟩) ⟨oo_blind, va_recv hK hP (ci := 0) (q0 := 0) rfl rfl, oo_ps hP hK [0, 1, 2, 3, 4, 5] rfl [0] rfl⟩ rfl rfl hl.1 rfl (lv_room (Nat.le_of_ble_eq_true rfl)) dX0_areFacts_2 ⟨Nat.le_of_ble_eq_true rfl, Nat.le_of_ble_eq_true rfl⟩) hP hS (fun H locs hP hS => ?_)
  refine lv_iconst (v := (-1 : Int32)) hx hb dX0_areFacts_5 (by decide) ?_
  refine lv_ixor hx hb dX0_areFacts_6 ?_
  refine lv_iand hx hb dX0_areFacts_7 ?_
  refine lv_if_ne (tgt := 15) hx hb dX0_areFacts_8 (by decide) (fun c_8 => ?_) (fun c_8 => ?_)
  · refine lv_iconst (v := (0 : Int32)) hx hb dX0_areFacts_15 (by decide) ?_
    exact ro_retz hx hb hr hlocks hS rfl (by unfold kvX0_areFacts; rw [if_neg c_8]) dX0_areFacts_16
  · refine lv_iconst (v := (1 : Int32)) hx hb dX0_areFacts_11 (by decide) ?_
    refine lv_goto (tgt := 16) hx hb dX0_areFacts_12 (by decide) ?_
    exact ro_retz hx hb hr hlocks hS rfl (by unfold kvX0_areFacts; rw [if_pos c_8]) dX0_areFacts_16
theorem ok_X0_blockOf : yX0_blockOf.cls = RX0 ∧ yX0_blockOf.cls ≠ "java/lang/invoke/MethodHandle" ∧ yX0_blockOf.cls ≠ "java/lang/invoke/VarHandle" ∧ (parseMethodDescriptor yX0_blockOf.desc).map (fun d => d.parameters.length) = some 2 := by decide +kernel
def kvX0_blockOf (an : Nat → Int64) (qn : Nat) (q : Int32) (k : Int32) : Int64 := if (kvX0_isQuestion qn q) = 0 then (0 : Int64) else (if k < 0 then (0 : Int64) else (if k < (nI 64) then (kvX0_at 2560 an ((q * (nI 64)) + k)) else (0 : Int64)))
set_option maxHeartbeats 4000000 in
set_option maxRecDepth 100000 in
theorem kX0_blockOf (l : Launch) (D : va_G) (cJ : ClassId) (h a1 a2 a3 a4 a5 : Nat) (u d lw uw an : Nat → Int64) (fn qn : Nat) (sd : Int64) (q : Int32) (k : Int32) : RoL l yX0_blockOf wsX0_blockOf ({ frames := 1, cells := 0, slots := 0, locals := 21 } : Room) [.ref h, .int q, .int k] D (xW cJ h a1 a2 a3 a4 a5 u d lw uw an (nI fn) (nI qn) sd) [(cJ, .long)] (kvX0_blockOf an qn q k) := by
  refine oo_head (C := RX0) (cc := cX0_blockOf) (maxL := 3) (ret := (some .long)) (by decide) rfl rfl (Nat.le_of_ble_eq_true rfl) ?_
  intro p e s m below meth c hx hb hr hlocks hml hown hnm hts hpre ls hl
  have hl : lv_has ls 3 [(0, .ref h), (1, .int q), (2, .int k)] := hl
  obtain ⟨hP, hK⟩ := hpre
  have hS : va_S oo_N s.heap s.heap [] := va_S.rf
  have hin : ∀ w ∈ wsX00, w ∈ wsX0_blockOf := fun w h => List.mem_cons_of_mem _ (List.mem_append_right _ h)
  refine lv_aload_n hx hb dX0_blockOf_0 rfl (lv_at hl 0 rfl) ?_
  refine lv_iload_n hx hb dX0_blockOf_1 rfl (lv_at hl 1 rfl) ?_
  refine ro_calli (va_runV (As := [.int q]) (rest := []) ⟨hx, hb, hml, hown, hts⟩ (kX0_isQuestion l D cJ h a1 a2 a3 a4 a5 u d lw uw an fn qn sd q) (cwV 1 hts gX0_blockOf_X0_isQuestion rfl rfl rfl ok_X0_isQuestion ⟨Nat.le_of_ble_eq_true rfl, Nat.le_of_ble_eq_true rfl⟩) ⟨oo_blind, va_recv hK hP (ci := 0) (q0 := 0) rfl rfl, oo_ps hP hK [0, 1, 2, 3, 4, 5] rfl [0] rfl⟩ rfl rfl hl.1 rfl (lv_room (Nat.le_of_ble_eq_true rfl)) dX0_blockOf_2 ⟨Nat.le_of_ble_eq_true rfl, Nat.le_of_ble_eq_true rfl⟩) hP hS (fun H locs hP hS => ?_)
  refine lv_if_eq (tgt := 18) hx hb dX0_blockOf_5 (by decide) (fun c_5 => ?_) (fun c_5 => ?_)
  · refine lv_lconst (v := (0 : Int64)) hx hb dX0_blockOf_18 (by decide) ?_
    exact ro_retl hx hb hr hlocks hS (by unfold kvX0_blockOf; rw [if_pos c_5]) dX0_blockOf_19
  · refine lv_iload_n hx hb dX0_blockOf_8 rfl (lv_at hl 2 rfl) ?_
    refine lv_if_lt (tgt := 18) hx hb dX0_blockOf_9 (by decide) (fun c_9 => ?_) (fun c_9 => ?_)
    · refine lv_lconst (v := (0 : Int64)) hx hb dX0_blockOf_18 (by decide) ?_
      exact ro_retl hx hb hr hlocks hS (by unfold kvX0_blockOf; rw [if_neg c_5, if_pos c_9]) dX0_blockOf_19
    · refine lv_iload_n hx hb dX0_blockOf_12 rfl (lv_at hl 2 rfl) ?_
      refine lv_bipush (v := nI 64) hx hb dX0_blockOf_13 (by decide) ?_
      refine lv_icmp_lt (tgt := 20) hx hb dX0_blockOf_15 (by decide) (fun c_15 => ?_) (fun c_15 => ?_)
      · refine lv_aload_n hx hb dX0_blockOf_20 rfl (lv_at hl 0 rfl) ?_
        refine va_get (D := D) (ci := 0) (v := .ref a5) (C := RX0) (T := TX0) (N := 8) hx hb hts hin hown hK hP 0 rfl rfl 4 (by decide) (hts (.fieldLink RX0 22 "OddsSampling" "answers" "[J") (by decide +kernel)) (fun _ h9 => h9) rfl dX0_blockOf_21 ?_
        refine lv_iload_n hx hb dX0_blockOf_24 rfl (lv_at hl 1 rfl) ?_
        refine lv_bipush (v := nI 64) hx hb dX0_blockOf_25 (by decide) ?_
        refine lv_imul hx hb dX0_blockOf_27 ?_
        refine lv_iload_n hx hb dX0_blockOf_28 rfl (lv_at hl 2 rfl) ?_
        refine lv_iadd hx hb dX0_blockOf_29 ?_
        refine ro_calll (va_runS (As := [.ref a5, .int ((q * (nI 64)) + k)]) (rest := []) ⟨hx, hb, hml, hown, hts⟩ (kX0_at l D cJ a5 2560 an ((q * (nI 64)) + k) (by omega)) (va_cwS 2 hts gX0_blockOf_X0_at rfl rfl rfl ok_X0_at ⟨Nat.le_of_ble_eq_true rfl, Nat.le_of_ble_eq_true rfl⟩) ⟨oo_blind, oo_ps hP hK [5] rfl [0] rfl⟩ rfl rfl hl.1 rfl (lv_room (Nat.le_of_ble_eq_true rfl)) dX0_blockOf_30 ⟨Nat.le_of_ble_eq_true rfl, Nat.le_of_ble_eq_true rfl⟩) hP hS (fun H locs hP hS => ?_)
        exact ro_retl hx hb hr hlocks hS (by unfold kvX0_blockOf; rw [if_neg c_5, if_neg c_9, if_pos c_15]) dX0_blockOf_33
      · refine lv_lconst (v := (0 : Int64)) hx hb dX0_blockOf_18 (by decide) ?_
        exact ro_retl hx hb hr hlocks hS (by unfold kvX0_blockOf; rw [if_neg c_5, if_neg c_9, if_neg c_15]) dX0_blockOf_19
theorem ok_X0_isTrue : yX0_isTrue.cls = RX0 ∧ yX0_isTrue.cls ≠ "java/lang/invoke/MethodHandle" ∧ yX0_isTrue.cls ≠ "java/lang/invoke/VarHandle" ∧ (parseMethodDescriptor yX0_isTrue.desc).map (fun d => d.parameters.length) = some 2 := by decide +kernel
def kvX0_isTrue (an : Nat → Int64) (qn : Nat) (q : Int32) (w : Int32) : Int32 := kvX0_isBitOn (kvX0_blockOf an qn q (w / (nI 64))) (w - w / (nI 64) * (nI 64))
set_option maxHeartbeats 4000000 in
set_option maxRecDepth 100000 in
theorem kX0_isTrue (l : Launch) (D : va_G) (cJ : ClassId) (h a1 a2 a3 a4 a5 : Nat) (u d lw uw an : Nat → Int64) (fn qn : Nat) (sd : Int64) (q : Int32) (w : Int32) : RoI l yX0_isTrue wsX0_isTrue ({ frames := 2, cells := 0, slots := 0, locals := 43 } : Room) [.ref h, .int q, .int w] D (xW cJ h a1 a2 a3 a4 a5 u d lw uw an (nI fn) (nI qn) sd) [(cJ, .long)] (kvX0_isTrue an qn q w) := by
  refine oo_head (C := RX0) (cc := cX0_isTrue) (maxL := 5) (ret := (some .boolean)) (by decide) rfl rfl (Nat.le_of_ble_eq_true rfl) ?_
  intro p e s m below meth c hx hb hr hlocks hml hown hnm hts hpre ls hl
  have hl : lv_has ls 5 [(0, .ref h), (1, .int q), (2, .int w)] := hl
  obtain ⟨hP, hK⟩ := hpre
  have hS : va_S oo_N s.heap s.heap [] := va_S.rf
  have hin : ∀ w ∈ wsX00, w ∈ wsX0_isTrue := fun w h => List.mem_cons_of_mem _ (List.mem_append_right _ h)
  refine lv_aload_n hx hb dX0_isTrue_0 rfl (lv_at hl 0 rfl) ?_
  refine lv_iload_n hx hb dX0_isTrue_1 rfl (lv_at hl 1 rfl) ?_
  refine lv_iload_n hx hb dX0_isTrue_2 rfl (lv_at hl 2 rfl) ?_
  refine lv_bipush (v := nI 64) hx hb dX0_isTrue_3 (by decide) ?_
  refine lv_idiv hx hb dX0_isTrue_5 (by decide) ?_
  refine ro_calll (va_runV (As := [.int q, .int (w / (nI 64))]) (rest := []) ⟨hx, hb, hml, hown, hts⟩ (kX0_blockOf l D cJ h a1 a2 a3 a4 a5 u d lw uw an fn qn sd q (w / (nI 64))) (cwV 2 hts gX0_isTrue_X0_blockOf rfl rfl rfl ok_X0_blockOf ⟨Nat.le_of_ble_eq_true rfl, Nat.le_of_ble_eq_true rfl⟩) ⟨oo_blind, va_recv hK hP (ci := 0) (q0 := 0) rfl rfl, oo_ps hP hK [0, 1, 2, 3, 4, 5] rfl [0] rfl⟩ rfl rfl hl.1 rfl (lv_room (Nat.le_of_ble_eq_true rfl)) dX0_isTrue_6 ⟨Nat.le_of_ble_eq_true rfl, Nat.le_of_ble_eq_true rfl⟩) hP hS (fun H locs hP hS => ?_)
  refine lv_lstore_n (lv' := [(3, .long (kvX0_blockOf an qn q (w / (nI 64)))), (0, .ref h), (1, .int q), (2, .int w)]) hx hb dX0_isTrue_9 rfl hl (by decide) rfl (fun ls hl => ?_)
  refine lv_lload_n hx hb dX0_isTrue_10 rfl (lv_at hl 0 rfl) ?_
  refine lv_iload_n hx hb dX0_isTrue_11 rfl (lv_at hl 3 rfl) ?_
  refine lv_bipush (v := nI 64) hx hb dX0_isTrue_12 (by decide) ?_
  refine lv_irem hx hb dX0_isTrue_14 (by decide) ?_
  refine ro_calli (va_runS (As := [.long (kvX0_blockOf an qn q (w / (nI 64))), .int (w - w / (nI 64) * (nI 64))]) (rest := []) ⟨hx, hb, hml, hown, hts⟩ (kX0_isBitOn l D (kvX0_blockOf an qn q (w / (nI 64))) (w - w / (nI 64) * (nI 64))) (va_cwS 2 hts gX0_isTrue_X0_isBitOn rfl rfl rfl ok_X0_isBitOn ⟨Nat.le_of_ble_eq_true rfl, Nat.le_of_ble_eq_true rfl⟩) ⟨oo_blind, oo_ps hP hK [] rfl [] rfl⟩ rfl rfl hl.1 rfl (lv_room (Nat.le_of_ble_eq_true rfl)) dX0_isTrue_15 ⟨Nat.le_of_ble_eq_true rfl, Nat.le_of_ble_eq_true rfl⟩) hP hS (fun H locs hP hS => ?_)
  exact ro_retz hx hb hr hlocks hS (by unfold kvX0_isBitOn; split <;> rfl) (by unfold kvX0_isTrue; rfl) dX0_isTrue_18
theorem ok_X0_keepNext : yX0_keepNext.cls = RX0 ∧ yX0_keepNext.cls ≠ "java/lang/invoke/MethodHandle" ∧ yX0_keepNext.cls ≠ "java/lang/invoke/VarHandle" ∧ (parseMethodDescriptor yX0_keepNext.desc).map (fun d => d.parameters.length) = some 0 := by decide +kernel
def kvX0_keepNext (qn : Nat) : Int32 := nI qn
set_option maxHeartbeats 4000000 in
set_option maxRecDepth 100000 in
theorem kX0_keepNext (l : Launch) (D : va_G) (cJ : ClassId) (h a1 a2 a3 a4 a5 : Nat) (u d lw uw an : Nat → Int64) (fn qn : Nat) (sd : Int64)  : MuI l yX0_keepNext wsX0_keepNext ({ frames := 0, cells := 0, slots := 0, locals := 0 } : Room) [.ref h] D (xW cJ h a1 a2 a3 a4 a5 u d lw uw an (nI fn) (nI qn) sd) [(cJ, .long)] (xW cJ h a1 a2 a3 a4 a5 u d lw uw an (nI fn) (nI (qn + 1)) sd) (kvX0_keepNext qn) := by
  intro sz
  refine oo_head (C := RX0) (cc := cX0_keepNext) (maxL := 2) (ret := (some .int)) (by decide) rfl rfl (Nat.le_of_ble_eq_true rfl) ?_
  intro p e s m below meth c hx hb hr hlocks hml hown hnm hts hpre ls hl
  have hl : lv_has ls 2 [(0, .ref h)] := hl
  obtain ⟨rfl, hP, hK, hD0⟩ := hpre
  have hD := hD0.self (sz := s.heap.size)
  have hA := oo_A (xW cJ h a1 a2 a3 a4 a5 u d lw uw an (nI fn) (nI qn) sd) s
  have hS : va_S (va_A (xW cJ h a1 a2 a3 a4 a5 u d lw uw an (nI fn) (nI qn) sd) s.heap.size) s.heap s.heap [] := va_S.rf
  have hin : ∀ w ∈ wsX00, w ∈ wsX0_keepNext := fun w h => List.mem_cons_of_mem _ (List.mem_append_right _ h)
  refine lv_aload_n hx hb dX0_keepNext_0 rfl (lv_at hl 0 rfl) ?_
  refine va_get (D := D) (ci := 0) (v := .int (nI qn)) (C := RX0) (T := TX0) (N := 8) hx hb hts hin hown hK hP 0 rfl rfl 6 (by decide) (hts (.fieldLink RX0 29 "OddsSampling" "questionCount" "I") (by decide +kernel)) (fun _ h9 => h9) rfl dX0_keepNext_1 ?_
  refine lv_istore_n (lv' := [(1, .int (nI qn)), (0, .ref h)]) hx hb dX0_keepNext_4 rfl hl (by decide) rfl (fun ls hl => ?_)
  refine lv_aload_n hx hb dX0_keepNext_5 rfl (lv_at hl 1 rfl) ?_
  refine lv_dup hx hb dX0_keepNext_6 rfl ?_
  refine va_get (D := D) (ci := 0) (v := .int (nI qn)) (C := RX0) (T := TX0) (N := 8) hx hb hts hin hown hK hP 0 rfl rfl 6 (by decide) (hts (.fieldLink RX0 29 "OddsSampling" "questionCount" "I") (by decide +kernel)) (fun _ h9 => h9) rfl dX0_keepNext_7 ?_
  refine lv_iconst (v := (1 : Int32)) hx hb dX0_keepNext_10 (by decide) ?_
  refine lv_iadd hx hb dX0_keepNext_11 ?_
  refine oo_topI (y := nI (qn + 1)) (nI_1 qn) ?_
  refine va_put (D := D) (ci := 0) (v := .int (nI (qn + 1))) (ty := .int) (C := RX0) (T := TX0) (N := 8) hx hb hts hin tyX0 tyX0_ok nmX0 hown hK hP hD hS 0 rfl rfl 6 (by decide) (hts (.fieldLink RX0 29 "OddsSampling" "questionCount" "I") (by decide +kernel)) (fun _ h9 => h9) rfl (by decide +kernel) rfl rfl (Nat.le_of_ble_eq_true rfl) dX0_keepNext_12 (fun H locs hP hD hS => ?_)
  have hP : va_P D vwCl (xW cJ h a1 a2 a3 a4 a5 u d lw uw an (nI fn) (nI (qn + 1)) sd) H := hP
  have hD : va_D _ (xW cJ h a1 a2 a3 a4 a5 u d lw uw an (nI fn) (nI (qn + 1)) sd) := hD
  refine lv_iload_n hx hb dX0_keepNext_15 rfl (lv_at hl 0 rfl) ?_
  exact mu_reti hx hb hr hlocks hP hD hS (by unfold kvX0_keepNext; rfl) dX0_keepNext_16
theorem ok_X0_putNextBlock : yX0_putNextBlock.cls = RX0 ∧ yX0_putNextBlock.cls ≠ "java/lang/invoke/MethodHandle" ∧ yX0_putNextBlock.cls ≠ "java/lang/invoke/VarHandle" ∧ (parseMethodDescriptor yX0_putNextBlock.desc).map (fun d => d.parameters.length) = some 2 := by decide +kernel
set_option maxHeartbeats 4000000 in
set_option maxRecDepth 100000 in
theorem kX0_putNextBlock (l : Launch) (D : va_G) (cJ : ClassId) (h a1 a2 a3 a4 a5 : Nat) (u d lw uw an : Nat → Int64) (fn qn : Nat) (sd : Int64) (k : Int32) (v : Int64) : MuV l yX0_putNextBlock wsX0_putNextBlock ({ frames := 1, cells := 0, slots := 0, locals := 23 } : Room) [.ref h, .int k, .long v] D (xW cJ h a1 a2 a3 a4 a5 u d lw uw an (nI fn) (nI qn) sd) [(cJ, .long)] (xW cJ h a1 a2 a3 a4 a5 u d lw uw (kvX0_put_c0 2560 an (((nI qn) * (nI 64)) + k) v) (nI fn) (nI qn) sd) := by
  intro sz
  refine oo_head (C := RX0) (cc := cX0_putNextBlock) (maxL := 4) (ret := none) (by decide) rfl rfl (Nat.le_of_ble_eq_true rfl) ?_
  intro p e s m below meth c hx hb hr hlocks hml hown hnm hts hpre ls hl
  have hl : lv_has ls 4 [(0, .ref h), (1, .int k), (2, .long v)] := hl
  obtain ⟨rfl, hP, hK, hD0⟩ := hpre
  have hD := hD0.self (sz := s.heap.size)
  have hA := oo_A (xW cJ h a1 a2 a3 a4 a5 u d lw uw an (nI fn) (nI qn) sd) s
  have hS : va_S (va_A (xW cJ h a1 a2 a3 a4 a5 u d lw uw an (nI fn) (nI qn) sd) s.heap.size) s.heap s.heap [] := va_S.rf
  have hin : ∀ w ∈ wsX00, w ∈ wsX0_putNextBlock := fun w h => List.mem_cons_of_mem _ (List.mem_append_right _ h)
  refine lv_aload_n hx hb dX0_putNextBlock_0 rfl (lv_at hl 0 rfl) ?_
  refine va_get (D := D) (ci := 0) (v := .ref a5) (C := RX0) (T := TX0) (N := 8) hx hb hts hin hown hK hP 0 rfl rfl 4 (by decide) (hts (.fieldLink RX0 22 "OddsSampling" "answers" "[J") (by decide +kernel)) (fun _ h9 => h9) rfl dX0_putNextBlock_1 ?_
  refine lv_aload_n hx hb dX0_putNextBlock_4 rfl (lv_at hl 0 rfl) ?_
  refine va_get (D := D) (ci := 0) (v := .int (nI qn)) (C := RX0) (T := TX0) (N := 8) hx hb hts hin hown hK hP 0 rfl rfl 6 (by decide) (hts (.fieldLink RX0 29 "OddsSampling" "questionCount" "I") (by decide +kernel)) (fun _ h9 => h9) rfl dX0_putNextBlock_5 ?_
  refine lv_bipush (v := nI 64) hx hb dX0_putNextBlock_8 (by decide) ?_
  refine lv_imul hx hb dX0_putNextBlock_10 ?_
  refine lv_iload_n hx hb dX0_putNextBlock_11 rfl (lv_at hl 1 rfl) ?_
  refine lv_iadd hx hb dX0_putNextBlock_12 ?_
  refine lv_lload_n hx hb dX0_putNextBlock_13 rfl (lv_at hl 2 rfl) ?_
  refine mu_callv (va_runS (As := [.ref a5, .int (((nI qn) * (nI 64)) + k), .long v]) (rest := []) ⟨hx, hb, hml, hown, hts⟩ (kX0_put l D cJ a5 2560 an (((nI qn) * (nI 64)) + k) v (by omega) _) (va_cwS 3 hts gX0_putNextBlock_X0_put rfl rfl rfl ok_X0_put ⟨Nat.le_of_ble_eq_true rfl, Nat.le_of_ble_eq_true rfl⟩) ⟨oo_blindM, oo_psM hP hD hK [5] rfl rfl [0] rfl⟩ rfl rfl hl.1 rfl (lv_room (Nat.le_of_ble_eq_true rfl)) dX0_putNextBlock_14 ⟨Nat.le_of_ble_eq_true rfl, Nat.le_of_ble_eq_true rfl⟩) hP hD hS hA [5] rfl rfl (fun H locs hP hD hS => ?_)
  have hP : va_P D vwCl (xW cJ h a1 a2 a3 a4 a5 u d lw uw (kvX0_put_c0 2560 an (((nI qn) * (nI 64)) + k) v) (nI fn) (nI qn) sd) H := hP
  have hD : va_D _ (xW cJ h a1 a2 a3 a4 a5 u d lw uw (kvX0_put_c0 2560 an (((nI qn) * (nI 64)) + k) v) (nI fn) (nI qn) sd) := hD
  exact mu_retv hx hb hr hlocks hP hD hS dX0_putNextBlock_17
theorem ok_X0_weightOf : yX0_weightOf.cls = RX0 ∧ yX0_weightOf.cls ≠ "java/lang/invoke/MethodHandle" ∧ yX0_weightOf.cls ≠ "java/lang/invoke/VarHandle" ∧ (parseMethodDescriptor yX0_weightOf.desc).map (fun d => d.parameters.length) = some 1 := by decide +kernel
def kvX0_weightOf (lw : Nat → Int64) (uw : Nat → Int64) (w : Int32) : Int64 := (kvX0_at 64 lw (w - w / (nI 64) * (nI 64))) * (kvX0_at 64 uw (w / (nI 64)))
set_option maxHeartbeats 4000000 in
set_option maxRecDepth 100000 in
theorem kX0_weightOf (l : Launch) (D : va_G) (cJ : ClassId) (h a1 a2 a3 a4 a5 : Nat) (u d lw uw an : Nat → Int64) (fn qn : Nat) (sd : Int64) (w : Int32) : RoL l yX0_weightOf wsX0_weightOf ({ frames := 1, cells := 0, slots := 0, locals := 21 } : Room) [.ref h, .int w] D (xW cJ h a1 a2 a3 a4 a5 u d lw uw an (nI fn) (nI qn) sd) [(cJ, .long)] (kvX0_weightOf lw uw w) := by
  refine oo_head (C := RX0) (cc := cX0_weightOf) (maxL := 2) (ret := (some .long)) (by decide) rfl rfl (Nat.le_of_ble_eq_true rfl) ?_
  intro p e s m below meth c hx hb hr hlocks hml hown hnm hts hpre ls hl
  have hl : lv_has ls 2 [(0, .ref h), (1, .int w)] := hl
  obtain ⟨hP, hK⟩ := hpre
  have hS : va_S oo_N s.heap s.heap [] := va_S.rf
  have hin : ∀ w ∈ wsX00, w ∈ wsX0_weightOf := fun w h => List.mem_cons_of_mem _ (List.mem_append_right _ h)
  refine lv_aload_n hx hb dX0_weightOf_0 rfl (lv_at hl 0 rfl) ?_
  refine va_get (D := D) (ci := 0) (v := .ref a3) (C := RX0) (T := TX0) (N := 8) hx hb hts hin hown hK hP 0 rfl rfl 2 (by decide) (hts (.fieldLink RX0 16 "OddsSampling" "lowerWeights" "[J") (by decide +kernel)) (fun _ h9 => h9) rfl dX0_weightOf_1 ?_
  refine lv_iload_n hx hb dX0_weightOf_4 rfl (lv_at hl 1 rfl) ?_
  refine lv_bipush (v := nI 64) hx hb dX0_weightOf_5 (by decide) ?_
  refine lv_irem hx hb dX0_weightOf_7 (by decide) ?_
  refine ro_calll (va_runS (As := [.ref a3, .int (w - w / (nI 64) * (nI 64))]) (rest := []) ⟨hx, hb, hml, hown, hts⟩ (kX0_at l D cJ a3 64 lw (w - w / (nI 64) * (nI 64)) (by omega)) (va_cwS 2 hts gX0_weightOf_X0_at rfl rfl rfl ok_X0_at ⟨Nat.le_of_ble_eq_true rfl, Nat.le_of_ble_eq_true rfl⟩) ⟨oo_blind, oo_ps hP hK [3] rfl [0] rfl⟩ rfl rfl hl.1 rfl (lv_room (Nat.le_of_ble_eq_true rfl)) dX0_weightOf_8 ⟨Nat.le_of_ble_eq_true rfl, Nat.le_of_ble_eq_true rfl⟩) hP hS (fun H locs hP hS => ?_)
  refine lv_aload_n hx hb dX0_weightOf_11 rfl (lv_at hl 0 rfl) ?_
  refine va_get (D := D) (ci := 0) (v := .ref a4) (C := RX0) (T := TX0) (N := 8) hx hb hts hin hown hK hP 0 rfl rfl 3 (by decide) (hts (.fieldLink RX0 19 "OddsSampling" "upperWeights" "[J") (by decide +kernel)) (fun _ h9 => h9) rfl dX0_weightOf_12 ?_
  refine lv_iload_n hx hb dX0_weightOf_15 rfl (lv_at hl 1 rfl) ?_
  refine lv_bipush (v := nI 64) hx hb dX0_weightOf_16 (by decide) ?_
  refine lv_idiv hx hb dX0_weightOf_18 (by decide) ?_
  refine ro_calll (va_runS (As := [.ref a4, .int (w / (nI 64))]) (rest := [.long (kvX0_at 64 lw (w - w / (nI 64) * (nI 64)))]) ⟨hx, hb, hml, hown, hts⟩ (kX0_at l D cJ a4 64 uw (w / (nI 64)) (by omega)) (va_cwS 2 hts gX0_weightOf_X0_at rfl rfl rfl ok_X0_at ⟨Nat.le_of_ble_eq_true rfl, Nat.le_of_ble_eq_true rfl⟩) ⟨oo_blind, oo_ps hP hK [4] rfl [0] rfl⟩ rfl rfl hl.1 rfl (lv_room (Nat.le_of_ble_eq_true rfl)) dX0_weightOf_19 ⟨Nat.le_of_ble_eq_true rfl, Nat.le_of_ble_eq_true rfl⟩) hP hS (fun H locs hP hS => ?_)
  refine lv_lmul hx hb dX0_weightOf_22 ?_
  exact ro_retl hx hb hr hlocks hS (by unfold kvX0_weightOf; rfl) dX0_weightOf_23
end
section
theorem oo_shl1 : ∀ n, n < 31 → (1 : Int32) <<< (nI n &&& 31) = nI (2 ^ n) := by decide +kernel
theorem oo_nz {x : Int64} (h : ¬ lg_cmp x 0 ≤ 0) : ¬ x = 0 := by
  intro e; rw [e] at h; exact h (by decide)
theorem oo_nz2 {x : Int64} (h : ¬ lg_cmp x 0 = 0) : ¬ x = 0 := by
  intro e; rw [e] at h; exact h (by decide)
def kl_setB (k w wo : Int32) : Nat → Int64
  | 0 => 0
  | n + 1 => if (((k * nI 64) + nI n) &&& w) = w then (if (((k * nI 64) + nI n) &&& wo) = 0 then kl_setB k w wo n ||| ((1 : Int64) <<< ((nI n).toInt64 &&& 63)) else kl_setB k w wo n) else kl_setB k w wo n
theorem ok_X0_setBlock : yX0_setBlock.cls ≠ "java/lang/invoke/MethodHandle" ∧ yX0_setBlock.cls ≠ "java/lang/invoke/VarHandle" ∧ (parseMethodDescriptor yX0_setBlock.desc).map (fun d => d.parameters.length) = some 3 := by decide +kernel
def kvX0_setBlock (k : Int32) (w : Int32) (wo : Int32) : Int64 := kl_setB k w wo 64
set_option maxHeartbeats 4000000 in
set_option maxRecDepth 100000 in
theorem kX0_setBlock (l : Launch) (D : va_G) (k : Int32) (w : Int32) (wo : Int32) : RoL l yX0_setBlock wsX0_setBlock ({ frames := 0, cells := 0, slots := 0, locals := 0 } : Room) [.int k, .int w, .int wo] D ([]) [] (kvX0_setBlock k w wo) := by
  refine oo_head (C := RX0) (cc := cX0_setBlock) (maxL := 7) (ret := (some .long)) (by decide) rfl rfl (Nat.le_of_ble_eq_true rfl) ?_
  intro p e s m below meth c hx hb hr hlocks hml hown hnm hts hpre ls hl
  have hl : lv_has ls 7 [(0, .int k), (1, .int w), (2, .int wo)] := hl
  obtain ⟨hP, hK⟩ := hpre
  have hS : va_S oo_N s.heap s.heap [] := va_S.rf
  refine lv_lconst (v := (0 : Int64)) hx hb dX0_setBlock_0 (by decide) ?_
  refine lv_lstore_n (lv' := [(3, .long (0 : Int64)), (0, .int k), (1, .int w), (2, .int wo)]) hx hb dX0_setBlock_1 rfl hl (by decide) rfl (fun ls hl => ?_)
  refine lv_iconst (v := nI 0) hx hb dX0_setBlock_2 (by decide) ?_
  refine lv_istore (lv' := [(5, .int (nI 0)), (3, .long (0 : Int64)), (0, .int k), (1, .int w), (2, .int wo)]) hx hb dX0_setBlock_3 hl (by decide) rfl (fun ls hl => ?_)
  have hl : lv_has ls 7 [(0, .int k), (1, .int w), (2, .int wo), (3, .long (0 : Int64)), (5, .int (nI 0))] := lv_sub hl [2, 3, 4, 1, 0] rfl
  have hl := Eq.mp (congrArg (fun z9 => lv_has ls 7 [(0, .int k), (1, .int w), (2, .int wo), (3, .long z9), (5, .int (nI 0))]) (show (0 : Int64) = kl_setB k w wo 0 from (by first | rfl | (simp only [kl_setB]; done)))) hl
  refine oo_loop (N := 64) (fun n H locs ls => va_P D vwCl ([]) H ∧ va_S (oo_N) s.heap H locs ∧ lv_has ls 7 [(0, .int k), (1, .int w), (2, .int wo), (3, .long (kl_setB k w wo n)), (5, .int (nI n))]) ?_ ?_ 0 (Nat.zero_le _) ⟨hP, hS, hl⟩
  · intro H locs ls hI
    obtain ⟨hP, hS, hl⟩ := hI
    refine lv_iload hx hb dX0_setBlock_5 (lv_at hl 4 rfl) ?_
    refine lv_bipush (v := nI 64) hx hb dX0_setBlock_7 (by decide) ?_
    refine lv_icmp_ge (tgt := 49) hx hb dX0_setBlock_9 (by decide) (fun c_9 => ?_) (fun c_9 => ?_)
    · refine lv_lload_n hx hb dX0_setBlock_49 rfl (lv_at hl 3 rfl) ?_
      exact ro_retl hx hb hr hlocks hS (by unfold kvX0_setBlock; rfl) dX0_setBlock_50
    · exact absurd (nI_le (Nat.le_refl _) (by omega)) c_9
  · intro n hltn ihn H locs ls hI
    obtain ⟨hP, hS, hl⟩ := hI
    refine lv_iload hx hb dX0_setBlock_5 (lv_at hl 4 rfl) ?_
    refine lv_bipush (v := nI 64) hx hb dX0_setBlock_7 (by decide) ?_
    refine lv_icmp_ge (tgt := 49) hx hb dX0_setBlock_9 (by decide) (fun c_9 => ?_) (fun c_9 => ?_)
    · exact absurd c_9 (nI_ge hltn (by omega))
    · refine lv_iload_n hx hb dX0_setBlock_12 rfl (lv_at hl 0 rfl) ?_
      refine lv_bipush (v := nI 64) hx hb dX0_setBlock_13 (by decide) ?_
      refine lv_imul hx hb dX0_setBlock_15 ?_
      refine lv_iload hx hb dX0_setBlock_16 (lv_at hl 4 rfl) ?_
      refine lv_iadd hx hb dX0_setBlock_18 ?_
      refine lv_istore (lv' := [(6, .int ((k * (nI 64)) + (nI n))), (0, .int k), (1, .int w), (2, .int wo), (3, .long (kl_setB k w wo n)), (5, .int (nI n))]) hx hb dX0_setBlock_19 hl (by decide) rfl (fun ls hl => ?_)
      refine lv_iload hx hb dX0_setBlock_21 (lv_at hl 0 rfl) ?_
      refine lv_iload_n hx hb dX0_setBlock_23 rfl (lv_at hl 2 rfl) ?_
      refine lv_iand hx hb dX0_setBlock_24 ?_
      refine lv_iload_n hx hb dX0_setBlock_25 rfl (lv_at hl 2 rfl) ?_
      refine lv_icmp_ne (tgt := 43) hx hb dX0_setBlock_26 (by decide) (fun c_26 => ?_) (fun c_26 => ?_)
      · refine lv_iinc (v := nI (n + 1)) (lv' := [(5, .int (nI (n + 1))), (6, .int ((k * (nI 64)) + (nI n))), (0, .int k), (1, .int w), (2, .int wo), (3, .long (kl_setB k w wo n))]) hx hb dX0_setBlock_43 hl (k := 5) rfl (oo_inc n 1) (by decide) rfl (fun ls hl => ?_)
        refine lv_goto (tgt := 5) hx hb dX0_setBlock_46 (by decide) ?_
        have hl : lv_has ls 7 [(0, .int k), (1, .int w), (2, .int wo), (3, .long (kl_setB k w wo n)), (5, .int (nI (n + 1)))] := lv_sub hl [2, 3, 4, 5, 0] rfl
        have hl := Eq.mp (congrArg (fun z9 => lv_has ls 7 [(0, .int k), (1, .int w), (2, .int wo), (3, .long z9), (5, .int (nI (n + 1)))]) (show kl_setB k w wo n = kl_setB k w wo (n + 1) from (by first | rfl | (simp only [kl_setB]; done) | (simp only [kl_setB]; rw [if_neg c_26])))) hl
        exact ihn _ _ _ ⟨hP, hS, hl⟩
      · refine lv_iload hx hb dX0_setBlock_29 (lv_at hl 0 rfl) ?_
        refine lv_iload_n hx hb dX0_setBlock_31 rfl (lv_at hl 3 rfl) ?_
        refine lv_iand hx hb dX0_setBlock_32 ?_
        refine lv_if_ne (tgt := 43) hx hb dX0_setBlock_33 (by decide) (fun c_33 => ?_) (fun c_33 => ?_)
        · refine lv_iinc (v := nI (n + 1)) (lv' := [(5, .int (nI (n + 1))), (6, .int ((k * (nI 64)) + (nI n))), (0, .int k), (1, .int w), (2, .int wo), (3, .long (kl_setB k w wo n))]) hx hb dX0_setBlock_43 hl (k := 5) rfl (oo_inc n 1) (by decide) rfl (fun ls hl => ?_)
          refine lv_goto (tgt := 5) hx hb dX0_setBlock_46 (by decide) ?_
          have hl : lv_has ls 7 [(0, .int k), (1, .int w), (2, .int wo), (3, .long (kl_setB k w wo n)), (5, .int (nI (n + 1)))] := lv_sub hl [2, 3, 4, 5, 0] rfl
          have hl := Eq.mp (congrArg (fun z9 => lv_has ls 7 [(0, .int k), (1, .int w), (2, .int wo), (3, .long z9), (5, .int (nI (n + 1)))]) (show kl_setB k w wo n = kl_setB k w wo (n + 1) from (by first | rfl | (simp only [kl_setB]; done) | (simp only [kl_setB]; rw [if_pos c_26, if_neg c_33])))) hl
          exact ihn _ _ _ ⟨hP, hS, hl⟩
        · refine lv_lload_n hx hb dX0_setBlock_36 rfl (lv_at hl 4 rfl) ?_
          refine lv_lconst (v := (1 : Int64)) hx hb dX0_setBlock_37 (by decide) ?_
          refine lv_iload hx hb dX0_setBlock_38 (lv_at hl 5 rfl) ?_
          refine lv_lshl hx hb dX0_setBlock_40 rfl ?_
          refine lv_lor hx hb dX0_setBlock_41 ?_
          refine lv_lstore_n (lv' := [(3, .long ((kl_setB k w wo n) ||| ((1 : Int64) <<< ((nI n).toInt64 &&& 63)))), (6, .int ((k * (nI 64)) + (nI n))), (0, .int k), (1, .int w), (2, .int wo), (5, .int (nI n))]) hx hb dX0_setBlock_42 rfl hl (by decide) rfl (fun ls hl => ?_)
          refine lv_iinc (v := nI (n + 1)) (lv' := [(5, .int (nI (n + 1))), (3, .long ((kl_setB k w wo n) ||| ((1 : Int64) <<< ((nI n).toInt64 &&& 63)))), (6, .int ((k * (nI 64)) + (nI n))), (0, .int k), (1, .int w), (2, .int wo)]) hx hb dX0_setBlock_43 hl (k := 5) rfl (oo_inc n 1) (by decide) rfl (fun ls hl => ?_)
          refine lv_goto (tgt := 5) hx hb dX0_setBlock_46 (by decide) ?_
          have hl : lv_has ls 7 [(0, .int k), (1, .int w), (2, .int wo), (3, .long ((kl_setB k w wo n) ||| ((1 : Int64) <<< ((nI n).toInt64 &&& 63)))), (5, .int (nI (n + 1)))] := lv_sub hl [3, 4, 5, 1, 0] rfl
          have hl := Eq.mp (congrArg (fun z9 => lv_has ls 7 [(0, .int k), (1, .int w), (2, .int wo), (3, .long z9), (5, .int (nI (n + 1)))]) (show (kl_setB k w wo n) ||| ((1 : Int64) <<< ((nI n).toInt64 &&& 63)) = kl_setB k w wo (n + 1) from (by first | rfl | (simp only [kl_setB]; done) | (simp only [kl_setB]; rw [if_pos c_26, if_pos c_33])))) hl
          exact ihn _ _ _ ⟨hP, hS, hl⟩
def kb_1 (x : Int32) : Int32 := x - ((x.toUInt32 >>> ((1 : Int32).toUInt32 &&& Int32.toUInt32 31)).toInt32 &&& (1431655765 : Int32))
def kb_2 (x : Int32) : Int32 := (x &&& (858993459 : Int32)) + ((x.toUInt32 >>> ((2 : Int32).toUInt32 &&& Int32.toUInt32 31)).toInt32 &&& (858993459 : Int32))
def kb_3 (x : Int32) : Int32 := (x + (x.toUInt32 >>> ((4 : Int32).toUInt32 &&& Int32.toUInt32 31)).toInt32) &&& (252645135 : Int32)
def kb_4 (x : Int32) : Int32 := x + (x.toUInt32 >>> ((nI 8).toUInt32 &&& Int32.toUInt32 31)).toInt32
def kb_5 (x : Int32) : Int32 := x + (x.toUInt32 >>> ((nI 16).toUInt32 &&& Int32.toUInt32 31)).toInt32
def kB_1 (x : Int64) : Int64 := x - ((x.toUInt64 >>> ((1 : Int32).toInt64.toUInt64 &&& Int64.toUInt64 63)).toInt64 &&& (6148914691236517205 : Int64))
def kB_2 (x : Int64) : Int64 := (x &&& (3689348814741910323 : Int64)) + ((x.toUInt64 >>> ((2 : Int32).toInt64.toUInt64 &&& Int64.toUInt64 63)).toInt64 &&& (3689348814741910323 : Int64))
def kB_3 (x : Int64) : Int64 := (x + (x.toUInt64 >>> ((4 : Int32).toInt64.toUInt64 &&& Int64.toUInt64 63)).toInt64) &&& (1085102592571150095 : Int64)
def kB_4 (x : Int64) : Int64 := x + (x.toUInt64 >>> ((nI 8).toInt64.toUInt64 &&& Int64.toUInt64 63)).toInt64
def kB_5 (x : Int64) : Int64 := x + (x.toUInt64 >>> ((nI 16).toInt64.toUInt64 &&& Int64.toUInt64 63)).toInt64
def kB_6 (x : Int64) : Int64 := x + (x.toUInt64 >>> ((nI 32).toInt64.toUInt64 &&& Int64.toUInt64 63)).toInt64
theorem ok_J6_bitCount_0f7a4 : yJ6_bitCount_0f7a4.cls ≠ "java/lang/invoke/MethodHandle" ∧ yJ6_bitCount_0f7a4.cls ≠ "java/lang/invoke/VarHandle" ∧ (parseMethodDescriptor yJ6_bitCount_0f7a4.desc).map (fun d => d.parameters.length) = some 1 := by decide +kernel
def kvJ6_bitCount_0f7a4 (x : Int32) : Int32 := (kb_5 (kb_4 (kb_3 (kb_2 (kb_1 x))))) &&& (nI 63)
set_option maxHeartbeats 4000000 in
set_option maxRecDepth 100000 in
theorem kJ6_bitCount_0f7a4 (l : Launch) (D : va_G) (x : Int32) : RoI l yJ6_bitCount_0f7a4 wsJ6_bitCount_0f7a4 ({ frames := 0, cells := 0, slots := 0, locals := 0 } : Room) [.int x] D ([]) [] (kvJ6_bitCount_0f7a4 x) := by
  refine oo_head (C := RJ6) (cc := cJ6_bitCount_0f7a4) (maxL := 1) (ret := (some .int)) (by decide) rfl rfl (Nat.le_of_ble_eq_true rfl) ?_
  intro p e s m below meth c hx hb hr hlocks hml hown hnm hts hpre ls hl
  have hl : lv_has ls 1 [(0, .int x)] := hl
  obtain ⟨hP, hK⟩ := hpre
  have hS : va_S oo_N s.heap s.heap [] := va_S.rf
  refine lv_iload_n hx hb dJ6_bitCount_0f7a4_0 rfl (lv_at hl 0 rfl) ?_
  refine lv_iload_n hx hb dJ6_bitCount_0f7a4_1 rfl (lv_at hl 0 rfl) ?_
  refine lv_iconst (v := (1 : Int32)) hx hb dJ6_bitCount_0f7a4_2 (by decide) ?_
  refine lv_iushr hx hb dJ6_bitCount_0f7a4_3 rfl ?_
  refine lv_ldcw hx hb hown (hts (.constant RJ6 265 (1431655765)) (by decide +kernel)) dJ6_bitCount_0f7a4_4 ?_
  refine lv_iand hx hb dJ6_bitCount_0f7a4_7 ?_
  refine lv_isub hx hb dJ6_bitCount_0f7a4_8 ?_
  refine oo_topI (y := kb_1 x) rfl ?_
  refine lv_istore_n (lv' := [(0, .int (kb_1 x))]) hx hb dJ6_bitCount_0f7a4_9 rfl hl (by decide) rfl (fun ls hl => ?_)
  refine lv_iload_n hx hb dJ6_bitCount_0f7a4_10 rfl (lv_at hl 0 rfl) ?_
  refine lv_ldcw hx hb hown (hts (.constant RJ6 266 (858993459)) (by decide +kernel)) dJ6_bitCount_0f7a4_11 ?_
  refine lv_iand hx hb dJ6_bitCount_0f7a4_14 ?_
  refine lv_iload_n hx hb dJ6_bitCount_0f7a4_15 rfl (lv_at hl 0 rfl) ?_
  refine lv_iconst (v := (2 : Int32)) hx hb dJ6_bitCount_0f7a4_16 (by decide) ?_
  refine lv_iushr hx hb dJ6_bitCount_0f7a4_17 rfl ?_
  refine lv_ldcw hx hb hown (hts (.constant RJ6 266 (858993459)) (by decide +kernel)) dJ6_bitCount_0f7a4_18 ?_
  refine lv_iand hx hb dJ6_bitCount_0f7a4_21 ?_
  refine lv_iadd hx hb dJ6_bitCount_0f7a4_22 ?_
  refine oo_topI (y := kb_2 (kb_1 x)) rfl ?_
  refine lv_istore_n (lv' := [(0, .int (kb_2 (kb_1 x)))]) hx hb dJ6_bitCount_0f7a4_23 rfl hl (by decide) rfl (fun ls hl => ?_)
  refine lv_iload_n hx hb dJ6_bitCount_0f7a4_24 rfl (lv_at hl 0 rfl) ?_
  refine lv_iload_n hx hb dJ6_bitCount_0f7a4_25 rfl (lv_at hl 0 rfl) ?_
  refine lv_iconst (v := (4 : Int32)) hx hb dJ6_bitCount_0f7a4_26 (by decide) ?_
  refine lv_iushr hx hb dJ6_bitCount_0f7a4_27 rfl ?_
  refine lv_iadd hx hb dJ6_bitCount_0f7a4_28 ?_
  refine lv_ldcw hx hb hown (hts (.constant RJ6 267 (252645135)) (by decide +kernel)) dJ6_bitCount_0f7a4_29 ?_
  refine lv_iand hx hb dJ6_bitCount_0f7a4_32 ?_
  refine oo_topI (y := kb_3 (kb_2 (kb_1 x))) rfl ?_
  refine lv_istore_n (lv' := [(0, .int (kb_3 (kb_2 (kb_1 x))))]) hx hb dJ6_bitCount_0f7a4_33 rfl hl (by decide) rfl (fun ls hl => ?_)
  refine lv_iload_n hx hb dJ6_bitCount_0f7a4_34 rfl (lv_at hl 0 rfl) ?_
  refine lv_iload_n hx hb dJ6_bitCount_0f7a4_35 rfl (lv_at hl 0 rfl) ?_
  refine lv_bipush (v := nI 8) hx hb dJ6_bitCount_0f7a4_36 (by decide) ?_
  refine lv_iushr hx hb dJ6_bitCount_0f7a4_38 rfl ?_
  refine lv_iadd hx hb dJ6_bitCount_0f7a4_39 ?_
  refine oo_topI (y := kb_4 (kb_3 (kb_2 (kb_1 x)))) rfl ?_
  refine lv_istore_n (lv' := [(0, .int (kb_4 (kb_3 (kb_2 (kb_1 x)))))]) hx hb dJ6_bitCount_0f7a4_40 rfl hl (by decide) rfl (fun ls hl => ?_)
  refine lv_iload_n hx hb dJ6_bitCount_0f7a4_41 rfl (lv_at hl 0 rfl) ?_
  refine lv_iload_n hx hb dJ6_bitCount_0f7a4_42 rfl (lv_at hl 0 rfl) ?_
  refine lv_bipush (v := nI 16) hx hb dJ6_bitCount_0f7a4_43 (by decide) ?_
  refine lv_iushr hx hb dJ6_bitCount_0f7a4_45 rfl ?_
  refine lv_iadd hx hb dJ6_bitCount_0f7a4_46 ?_
  refine oo_topI (y := kb_5 (kb_4 (kb_3 (kb_2 (kb_1 x))))) rfl ?_
  refine lv_istore_n (lv' := [(0, .int (kb_5 (kb_4 (kb_3 (kb_2 (kb_1 x))))))]) hx hb dJ6_bitCount_0f7a4_47 rfl hl (by decide) rfl (fun ls hl => ?_)
  refine lv_iload_n hx hb dJ6_bitCount_0f7a4_48 rfl (lv_at hl 0 rfl) ?_
  refine lv_bipush (v := nI 63) hx hb dJ6_bitCount_0f7a4_49 (by decide) ?_
  refine lv_iand hx hb dJ6_bitCount_0f7a4_51 ?_
  exact ro_reti hx hb hr hlocks hS (by unfold kvJ6_bitCount_0f7a4; rfl) dJ6_bitCount_0f7a4_52
theorem ok_J13_bitCount_95d88 : yJ13_bitCount_95d88.cls ≠ "java/lang/invoke/MethodHandle" ∧ yJ13_bitCount_95d88.cls ≠ "java/lang/invoke/VarHandle" ∧ (parseMethodDescriptor yJ13_bitCount_95d88.desc).map (fun d => d.parameters.length) = some 1 := by decide +kernel
def kvJ13_bitCount_95d88 (x : Int64) : Int32 := ((kB_6 (kB_5 (kB_4 (kB_3 (kB_2 (kB_1 x)))))).toInt32) &&& (nI 127)
set_option maxHeartbeats 4000000 in
set_option maxRecDepth 100000 in
theorem kJ13_bitCount_95d88 (l : Launch) (D : va_G) (x : Int64) : RoI l yJ13_bitCount_95d88 wsJ13_bitCount_95d88 ({ frames := 0, cells := 0, slots := 0, locals := 0 } : Room) [.long x] D ([]) [] (kvJ13_bitCount_95d88 x) := by
  refine oo_head (C := RJ13) (cc := cJ13_bitCount_95d88) (maxL := 2) (ret := (some .int)) (by decide) rfl rfl (Nat.le_of_ble_eq_true rfl) ?_
  intro p e s m below meth c hx hb hr hlocks hml hown hnm hts hpre ls hl
  have hl : lv_has ls 2 [(0, .long x)] := hl
  obtain ⟨hP, hK⟩ := hpre
  have hS : va_S oo_N s.heap s.heap [] := va_S.rf
  refine lv_lload_n hx hb dJ13_bitCount_95d88_0 rfl (lv_at hl 0 rfl) ?_
  refine lv_lload_n hx hb dJ13_bitCount_95d88_1 rfl (lv_at hl 0 rfl) ?_
  refine lv_iconst (v := (1 : Int32)) hx hb dJ13_bitCount_95d88_2 (by decide) ?_
  refine lv_lushr hx hb dJ13_bitCount_95d88_3 rfl ?_
  refine lv_ldc2 hx hb hown (hts (.constantLong RJ13 314 (6148914691236517205)) (by decide +kernel)) dJ13_bitCount_95d88_4 ?_
  refine lv_land hx hb dJ13_bitCount_95d88_7 ?_
  refine lv_lsub hx hb dJ13_bitCount_95d88_8 ?_
  refine oo_topL (y := kB_1 x) rfl ?_
  refine lv_lstore_n (lv' := [(0, .long (kB_1 x))]) hx hb dJ13_bitCount_95d88_9 rfl hl (by decide) rfl (fun ls hl => ?_)
  refine lv_lload_n hx hb dJ13_bitCount_95d88_10 rfl (lv_at hl 0 rfl) ?_
  refine lv_ldc2 hx hb hown (hts (.constantLong RJ13 316 (3689348814741910323)) (by decide +kernel)) dJ13_bitCount_95d88_11 ?_
  refine lv_land hx hb dJ13_bitCount_95d88_14 ?_
  refine lv_lload_n hx hb dJ13_bitCount_95d88_15 rfl (lv_at hl 0 rfl) ?_
  refine lv_iconst (v := (2 : Int32)) hx hb dJ13_bitCount_95d88_16 (by decide) ?_
  refine lv_lushr hx hb dJ13_bitCount_95d88_17 rfl ?_
  refine lv_ldc2 hx hb hown (hts (.constantLong RJ13 316 (3689348814741910323)) (by decide +kernel)) dJ13_bitCount_95d88_18 ?_
  refine lv_land hx hb dJ13_bitCount_95d88_21 ?_
  refine lv_ladd hx hb dJ13_bitCount_95d88_22 ?_
  refine oo_topL (y := kB_2 (kB_1 x)) rfl ?_
  refine lv_lstore_n (lv' := [(0, .long (kB_2 (kB_1 x)))]) hx hb dJ13_bitCount_95d88_23 rfl hl (by decide) rfl (fun ls hl => ?_)
  refine lv_lload_n hx hb dJ13_bitCount_95d88_24 rfl (lv_at hl 0 rfl) ?_
  refine lv_lload_n hx hb dJ13_bitCount_95d88_25 rfl (lv_at hl 0 rfl) ?_
  refine lv_iconst (v := (4 : Int32)) hx hb dJ13_bitCount_95d88_26 (by decide) ?_
  refine lv_lushr hx hb dJ13_bitCount_95d88_27 rfl ?_
  refine lv_ladd hx hb dJ13_bitCount_95d88_28 ?_
  refine lv_ldc2 hx hb hown (hts (.constantLong RJ13 318 (1085102592571150095)) (by decide +kernel)) dJ13_bitCount_95d88_29 ?_
  refine lv_land hx hb dJ13_bitCount_95d88_32 ?_
  refine oo_topL (y := kB_3 (kB_2 (kB_1 x))) rfl ?_
  refine lv_lstore_n (lv' := [(0, .long (kB_3 (kB_2 (kB_1 x))))]) hx hb dJ13_bitCount_95d88_33 rfl hl (by decide) rfl (fun ls hl => ?_)
  refine lv_lload_n hx hb dJ13_bitCount_95d88_34 rfl (lv_at hl 0 rfl) ?_
  refine lv_lload_n hx hb dJ13_bitCount_95d88_35 rfl (lv_at hl 0 rfl) ?_
  refine lv_bipush (v := nI 8) hx hb dJ13_bitCount_95d88_36 (by decide) ?_
  refine lv_lushr hx hb dJ13_bitCount_95d88_38 rfl ?_
  refine lv_ladd hx hb dJ13_bitCount_95d88_39 ?_
  refine oo_topL (y := kB_4 (kB_3 (kB_2 (kB_1 x)))) rfl ?_
  refine lv_lstore_n (lv' := [(0, .long (kB_4 (kB_3 (kB_2 (kB_1 x)))))]) hx hb dJ13_bitCount_95d88_40 rfl hl (by decide) rfl (fun ls hl => ?_)
  refine lv_lload_n hx hb dJ13_bitCount_95d88_41 rfl (lv_at hl 0 rfl) ?_
  refine lv_lload_n hx hb dJ13_bitCount_95d88_42 rfl (lv_at hl 0 rfl) ?_
  refine lv_bipush (v := nI 16) hx hb dJ13_bitCount_95d88_43 (by decide) ?_
  refine lv_lushr hx hb dJ13_bitCount_95d88_45 rfl ?_
  refine lv_ladd hx hb dJ13_bitCount_95d88_46 ?_
  refine oo_topL (y := kB_5 (kB_4 (kB_3 (kB_2 (kB_1 x))))) rfl ?_
  refine lv_lstore_n (lv' := [(0, .long (kB_5 (kB_4 (kB_3 (kB_2 (kB_1 x))))))]) hx hb dJ13_bitCount_95d88_47 rfl hl (by decide) rfl (fun ls hl => ?_)
  refine lv_lload_n hx hb dJ13_bitCount_95d88_48 rfl (lv_at hl 0 rfl) ?_
  refine lv_lload_n hx hb dJ13_bitCount_95d88_49 rfl (lv_at hl 0 rfl) ?_
  refine lv_bipush (v := nI 32) hx hb dJ13_bitCount_95d88_50 (by decide) ?_
  refine lv_lushr hx hb dJ13_bitCount_95d88_52 rfl ?_
  refine lv_ladd hx hb dJ13_bitCount_95d88_53 ?_
  refine oo_topL (y := kB_6 (kB_5 (kB_4 (kB_3 (kB_2 (kB_1 x)))))) rfl ?_
  refine lv_lstore_n (lv' := [(0, .long (kB_6 (kB_5 (kB_4 (kB_3 (kB_2 (kB_1 x)))))))]) hx hb dJ13_bitCount_95d88_54 rfl hl (by decide) rfl (fun ls hl => ?_)
  refine lv_lload_n hx hb dJ13_bitCount_95d88_55 rfl (lv_at hl 0 rfl) ?_
  refine lv_l2i hx hb dJ13_bitCount_95d88_56 rfl ?_
  refine lv_bipush (v := nI 127) hx hb dJ13_bitCount_95d88_57 (by decide) ?_
  refine lv_iand hx hb dJ13_bitCount_95d88_59 ?_
  exact ro_reti hx hb hr hlocks hS (by unfold kvJ13_bitCount_95d88; rfl) dJ13_bitCount_95d88_60
def kl_someB (k fs lo hi : Int32) : Nat → Int64
  | 0 => 0
  | n + 1 => if kvJ6_bitCount_0f7a4 (((k * nI 64) + nI n) &&& fs) < lo then kl_someB k fs lo hi n else (if hi < kvJ6_bitCount_0f7a4 (((k * nI 64) + nI n) &&& fs) then kl_someB k fs lo hi n else kl_someB k fs lo hi n ||| ((1 : Int64) <<< ((nI n).toInt64 &&& 63)))
theorem ok_X0_someBlock : yX0_someBlock.cls ≠ "java/lang/invoke/MethodHandle" ∧ yX0_someBlock.cls ≠ "java/lang/invoke/VarHandle" ∧ (parseMethodDescriptor yX0_someBlock.desc).map (fun d => d.parameters.length) = some 4 := by decide +kernel
def kvX0_someBlock (k : Int32) (fs : Int32) (lo : Int32) (hi : Int32) : Int64 := kl_someB k fs lo hi 64
set_option maxHeartbeats 4000000 in
set_option maxRecDepth 100000 in
theorem kX0_someBlock (l : Launch) (D : va_G) (k : Int32) (fs : Int32) (lo : Int32) (hi : Int32) : RoL l yX0_someBlock wsX0_someBlock ({ frames := 1, cells := 0, slots := 0, locals := 20 } : Room) [.int k, .int fs, .int lo, .int hi] D ([]) [] (kvX0_someBlock k fs lo hi) := by
  refine oo_head (C := RX0) (cc := cX0_someBlock) (maxL := 8) (ret := (some .long)) (by decide) rfl rfl (Nat.le_of_ble_eq_true rfl) ?_
  intro p e s m below meth c hx hb hr hlocks hml hown hnm hts hpre ls hl
  have hl : lv_has ls 8 [(0, .int k), (1, .int fs), (2, .int lo), (3, .int hi)] := hl
  obtain ⟨hP, hK⟩ := hpre
  have hS : va_S oo_N s.heap s.heap [] := va_S.rf
  refine lv_lconst (v := (0 : Int64)) hx hb dX0_someBlock_0 (by decide) ?_
  refine lv_lstore (lv' := [(4, .long (0 : Int64)), (0, .int k), (1, .int fs), (2, .int lo), (3, .int hi)]) hx hb dX0_someBlock_1 hl (by decide) rfl (fun ls hl => ?_)
  refine lv_iconst (v := nI 0) hx hb dX0_someBlock_3 (by decide) ?_
  refine lv_istore (lv' := [(6, .int (nI 0)), (4, .long (0 : Int64)), (0, .int k), (1, .int fs), (2, .int lo), (3, .int hi)]) hx hb dX0_someBlock_4 hl (by decide) rfl (fun ls hl => ?_)
  have hl : lv_has ls 8 [(0, .int k), (1, .int fs), (2, .int lo), (3, .int hi), (4, .long (0 : Int64)), (6, .int (nI 0))] := lv_sub hl [2, 3, 4, 5, 1, 0] rfl
  have hl := Eq.mp (congrArg (fun z9 => lv_has ls 8 [(0, .int k), (1, .int fs), (2, .int lo), (3, .int hi), (4, .long z9), (6, .int (nI 0))]) (show (0 : Int64) = kl_someB k fs lo hi 0 from (by first | rfl | (simp only [kl_someB]; done)))) hl
  refine oo_loop (N := 64) (fun n H locs ls => va_P D vwCl ([]) H ∧ va_S (oo_N) s.heap H locs ∧ lv_has ls 8 [(0, .int k), (1, .int fs), (2, .int lo), (3, .int hi), (4, .long (kl_someB k fs lo hi n)), (6, .int (nI n))]) ?_ ?_ 0 (Nat.zero_le _) ⟨hP, hS, hl⟩
  · intro H locs ls hI
    obtain ⟨hP, hS, hl⟩ := hI
    refine lv_iload hx hb dX0_someBlock_6 (lv_at hl 5 rfl) ?_
    refine lv_bipush (v := nI 64) hx hb dX0_someBlock_8 (by decide) ?_
    refine lv_icmp_ge (tgt := 54) hx hb dX0_someBlock_10 (by decide) (fun c_10 => ?_) (fun c_10 => ?_)
    · refine lv_lload hx hb dX0_someBlock_54 (lv_at hl 4 rfl) ?_
      exact ro_retl hx hb hr hlocks hS (by unfold kvX0_someBlock; rfl) dX0_someBlock_56
    · exact absurd (nI_le (Nat.le_refl _) (by omega)) c_10
  · intro n hltn ihn H locs ls hI
    obtain ⟨hP, hS, hl⟩ := hI
    refine lv_iload hx hb dX0_someBlock_6 (lv_at hl 5 rfl) ?_
    refine lv_bipush (v := nI 64) hx hb dX0_someBlock_8 (by decide) ?_
    refine lv_icmp_ge (tgt := 54) hx hb dX0_someBlock_10 (by decide) (fun c_10 => ?_) (fun c_10 => ?_)
    · exact absurd c_10 (nI_ge hltn (by omega))
    · refine lv_iload_n hx hb dX0_someBlock_13 rfl (lv_at hl 0 rfl) ?_
      refine lv_bipush (v := nI 64) hx hb dX0_someBlock_14 (by decide) ?_
      refine lv_imul hx hb dX0_someBlock_16 ?_
      refine lv_iload hx hb dX0_someBlock_17 (lv_at hl 5 rfl) ?_
      refine lv_iadd hx hb dX0_someBlock_19 ?_
      refine lv_iload_n hx hb dX0_someBlock_20 rfl (lv_at hl 1 rfl) ?_
      refine lv_iand hx hb dX0_someBlock_21 ?_
      refine ro_calli (va_runS (As := [.int (((k * (nI 64)) + (nI n)) &&& fs)]) (rest := []) ⟨hx, hb, hml, hown, hts⟩ (kJ6_bitCount_0f7a4 l D (((k * (nI 64)) + (nI n)) &&& fs)) (va_cwS 1 hts gX0_someBlock_J6_bitCount_0f7a4 rfl rfl rfl ok_J6_bitCount_0f7a4 ⟨Nat.le_of_ble_eq_true rfl, Nat.le_of_ble_eq_true rfl⟩) ⟨oo_blind, oo_ps hP hK [] rfl [] rfl⟩ rfl rfl hl.1 rfl (lv_room (Nat.le_of_ble_eq_true rfl)) dX0_someBlock_22 ⟨Nat.le_of_ble_eq_true rfl, Nat.le_of_ble_eq_true rfl⟩) hP hS (fun H locs hP hS => ?_)
      refine lv_istore (lv' := [(7, .int (kvJ6_bitCount_0f7a4 (((k * (nI 64)) + (nI n)) &&& fs))), (0, .int k), (1, .int fs), (2, .int lo), (3, .int hi), (4, .long (kl_someB k fs lo hi n)), (6, .int (nI n))]) hx hb dX0_someBlock_25 hl (by decide) rfl (fun ls hl => ?_)
      refine lv_iload hx hb dX0_someBlock_27 (lv_at hl 0 rfl) ?_
      refine lv_iload_n hx hb dX0_someBlock_29 rfl (lv_at hl 3 rfl) ?_
      refine lv_icmp_lt (tgt := 48) hx hb dX0_someBlock_30 (by decide) (fun c_30 => ?_) (fun c_30 => ?_)
      · refine lv_iinc (v := nI (n + 1)) (lv' := [(6, .int (nI (n + 1))), (7, .int (kvJ6_bitCount_0f7a4 (((k * (nI 64)) + (nI n)) &&& fs))), (0, .int k), (1, .int fs), (2, .int lo), (3, .int hi), (4, .long (kl_someB k fs lo hi n))]) hx hb dX0_someBlock_48 hl (k := 6) rfl (oo_inc n 1) (by decide) rfl (fun ls hl => ?_)
        refine lv_goto (tgt := 6) hx hb dX0_someBlock_51 (by decide) ?_
        have hl : lv_has ls 8 [(0, .int k), (1, .int fs), (2, .int lo), (3, .int hi), (4, .long (kl_someB k fs lo hi n)), (6, .int (nI (n + 1)))] := lv_sub hl [2, 3, 4, 5, 6, 0] rfl
        have hl := Eq.mp (congrArg (fun z9 => lv_has ls 8 [(0, .int k), (1, .int fs), (2, .int lo), (3, .int hi), (4, .long z9), (6, .int (nI (n + 1)))]) (show kl_someB k fs lo hi n = kl_someB k fs lo hi (n + 1) from (by first | rfl | (simp only [kl_someB]; done) | (simp only [kl_someB]; rw [if_pos c_30])))) hl
        exact ihn _ _ _ ⟨hP, hS, hl⟩
      · refine lv_iload hx hb dX0_someBlock_33 (lv_at hl 0 rfl) ?_
        refine lv_iload_n hx hb dX0_someBlock_35 rfl (lv_at hl 4 rfl) ?_
        refine lv_icmp_gt (tgt := 48) hx hb dX0_someBlock_36 (by decide) (fun c_36 => ?_) (fun c_36 => ?_)
        · refine lv_iinc (v := nI (n + 1)) (lv' := [(6, .int (nI (n + 1))), (7, .int (kvJ6_bitCount_0f7a4 (((k * (nI 64)) + (nI n)) &&& fs))), (0, .int k), (1, .int fs), (2, .int lo), (3, .int hi), (4, .long (kl_someB k fs lo hi n))]) hx hb dX0_someBlock_48 hl (k := 6) rfl (oo_inc n 1) (by decide) rfl (fun ls hl => ?_)
          refine lv_goto (tgt := 6) hx hb dX0_someBlock_51 (by decide) ?_
          have hl : lv_has ls 8 [(0, .int k), (1, .int fs), (2, .int lo), (3, .int hi), (4, .long (kl_someB k fs lo hi n)), (6, .int (nI (n + 1)))] := lv_sub hl [2, 3, 4, 5, 6, 0] rfl
          have hl := Eq.mp (congrArg (fun z9 => lv_has ls 8 [(0, .int k), (1, .int fs), (2, .int lo), (3, .int hi), (4, .long z9), (6, .int (nI (n + 1)))]) (show kl_someB k fs lo hi n = kl_someB k fs lo hi (n + 1) from (by first | rfl | (simp only [kl_someB]; done) | (simp only [kl_someB]; rw [if_neg c_30, if_pos c_36])))) hl
          exact ihn _ _ _ ⟨hP, hS, hl⟩
        · refine lv_lload hx hb dX0_someBlock_39 (lv_at hl 5 rfl) ?_
          refine lv_lconst (v := (1 : Int64)) hx hb dX0_someBlock_41 (by decide) ?_
          refine lv_iload hx hb dX0_someBlock_42 (lv_at hl 6 rfl) ?_
          refine lv_lshl hx hb dX0_someBlock_44 rfl ?_
          refine lv_lor hx hb dX0_someBlock_45 ?_
          refine lv_lstore (lv' := [(4, .long ((kl_someB k fs lo hi n) ||| ((1 : Int64) <<< ((nI n).toInt64 &&& 63)))), (7, .int (kvJ6_bitCount_0f7a4 (((k * (nI 64)) + (nI n)) &&& fs))), (0, .int k), (1, .int fs), (2, .int lo), (3, .int hi), (6, .int (nI n))]) hx hb dX0_someBlock_46 hl (by decide) rfl (fun ls hl => ?_)
          refine lv_iinc (v := nI (n + 1)) (lv' := [(6, .int (nI (n + 1))), (4, .long ((kl_someB k fs lo hi n) ||| ((1 : Int64) <<< ((nI n).toInt64 &&& 63)))), (7, .int (kvJ6_bitCount_0f7a4 (((k * (nI 64)) + (nI n)) &&& fs))), (0, .int k), (1, .int fs), (2, .int lo), (3, .int hi)]) hx hb dX0_someBlock_48 hl (k := 6) rfl (oo_inc n 1) (by decide) rfl (fun ls hl => ?_)
          refine lv_goto (tgt := 6) hx hb dX0_someBlock_51 (by decide) ?_
          have hl : lv_has ls 8 [(0, .int k), (1, .int fs), (2, .int lo), (3, .int hi), (4, .long ((kl_someB k fs lo hi n) ||| ((1 : Int64) <<< ((nI n).toInt64 &&& 63)))), (6, .int (nI (n + 1)))] := lv_sub hl [3, 4, 5, 6, 1, 0] rfl
          have hl := Eq.mp (congrArg (fun z9 => lv_has ls 8 [(0, .int k), (1, .int fs), (2, .int lo), (3, .int hi), (4, .long z9), (6, .int (nI (n + 1)))]) (show (kl_someB k fs lo hi n) ||| ((1 : Int64) <<< ((nI n).toInt64 &&& 63)) = kl_someB k fs lo hi (n + 1) from (by first | rfl | (simp only [kl_someB]; done) | (simp only [kl_someB]; rw [if_neg c_30, if_neg c_36])))) hl
          exact ihn _ _ _ ⟨hP, hS, hl⟩
def kl_low (lw : Nat → Int64) (b : Int64) : Nat → Int64
  | 0 => 0
  | n + 1 => if kvX0_isBitOn b (nI n) = 0 then kl_low lw b n else kl_low lw b n + kvX0_at 64 lw (nI n)
theorem ok_X0_lowerSum : yX0_lowerSum.cls = RX0 ∧ yX0_lowerSum.cls ≠ "java/lang/invoke/MethodHandle" ∧ yX0_lowerSum.cls ≠ "java/lang/invoke/VarHandle" ∧ (parseMethodDescriptor yX0_lowerSum.desc).map (fun d => d.parameters.length) = some 1 := by decide +kernel
def kvX0_lowerSum (lw : Nat → Int64) (b : Int64) : Int64 := kl_low lw b 64
set_option maxHeartbeats 4000000 in
set_option maxRecDepth 100000 in
theorem kX0_lowerSum (l : Launch) (D : va_G) (cJ : ClassId) (h a1 a2 a3 a4 a5 : Nat) (u d lw uw an : Nat → Int64) (fn qn : Nat) (sd : Int64) (b : Int64) : RoL l yX0_lowerSum wsX0_lowerSum ({ frames := 1, cells := 0, slots := 0, locals := 22 } : Room) [.ref h, .long b] D (xW cJ h a1 a2 a3 a4 a5 u d lw uw an (nI fn) (nI qn) sd) [(cJ, .long)] (kvX0_lowerSum lw b) := by
  refine oo_head (C := RX0) (cc := cX0_lowerSum) (maxL := 6) (ret := (some .long)) (by decide) rfl rfl (Nat.le_of_ble_eq_true rfl) ?_
  intro p e s m below meth c hx hb hr hlocks hml hown hnm hts hpre ls hl
  have hl : lv_has ls 6 [(0, .ref h), (1, .long b)] := hl
  obtain ⟨hP, hK⟩ := hpre
  have hS : va_S oo_N s.heap s.heap [] := va_S.rf
  have hin : ∀ w ∈ wsX00, w ∈ wsX0_lowerSum := fun w h => List.mem_cons_of_mem _ (List.mem_append_right _ h)
  refine lv_lconst (v := (0 : Int64)) hx hb dX0_lowerSum_0 (by decide) ?_
  refine lv_lstore_n (lv' := [(3, .long (0 : Int64)), (0, .ref h), (1, .long b)]) hx hb dX0_lowerSum_1 rfl hl (by decide) rfl (fun ls hl => ?_)
  refine lv_iconst (v := nI 0) hx hb dX0_lowerSum_2 (by decide) ?_
  refine lv_istore (lv' := [(5, .int (nI 0)), (3, .long (0 : Int64)), (0, .ref h), (1, .long b)]) hx hb dX0_lowerSum_3 hl (by decide) rfl (fun ls hl => ?_)
  have hl : lv_has ls 6 [(0, .ref h), (1, .long b), (3, .long (0 : Int64)), (5, .int (nI 0))] := lv_sub hl [2, 3, 1, 0] rfl
  have hl := Eq.mp (congrArg (fun z9 => lv_has ls 6 [(0, .ref h), (1, .long b), (3, .long z9), (5, .int (nI 0))]) (show (0 : Int64) = kl_low lw b 0 from (by first | rfl | (simp only [kl_low]; done)))) hl
  refine oo_loop (N := 64) (fun n H locs ls => va_P D vwCl (xW cJ h a1 a2 a3 a4 a5 u d lw uw an (nI fn) (nI qn) sd) H ∧ va_S (oo_N) s.heap H locs ∧ lv_has ls 6 [(0, .ref h), (1, .long b), (3, .long (kl_low lw b n)), (5, .int (nI n))]) ?_ ?_ 0 (Nat.zero_le _) ⟨hP, hS, hl⟩
  · intro H locs ls hI
    obtain ⟨hP, hS, hl⟩ := hI
    refine lv_iload hx hb dX0_lowerSum_5 (lv_at hl 3 rfl) ?_
    refine lv_bipush (v := nI 64) hx hb dX0_lowerSum_7 (by decide) ?_
    refine lv_icmp_ge (tgt := 39) hx hb dX0_lowerSum_9 (by decide) (fun c_9 => ?_) (fun c_9 => ?_)
    · refine lv_lload_n hx hb dX0_lowerSum_39 rfl (lv_at hl 2 rfl) ?_
      exact ro_retl hx hb hr hlocks hS (by unfold kvX0_lowerSum; rfl) dX0_lowerSum_40
    · exact absurd (nI_le (Nat.le_refl _) (by omega)) c_9
  · intro n hltn ihn H locs ls hI
    obtain ⟨hP, hS, hl⟩ := hI
    refine lv_iload hx hb dX0_lowerSum_5 (lv_at hl 3 rfl) ?_
    refine lv_bipush (v := nI 64) hx hb dX0_lowerSum_7 (by decide) ?_
    refine lv_icmp_ge (tgt := 39) hx hb dX0_lowerSum_9 (by decide) (fun c_9 => ?_) (fun c_9 => ?_)
    · exact absurd c_9 (nI_ge hltn (by omega))
    · refine lv_lload_n hx hb dX0_lowerSum_12 rfl (lv_at hl 1 rfl) ?_
      refine lv_iload hx hb dX0_lowerSum_13 (lv_at hl 3 rfl) ?_
      refine ro_calli (va_runS (As := [.long b, .int (nI n)]) (rest := []) ⟨hx, hb, hml, hown, hts⟩ (kX0_isBitOn l D b (nI n)) (va_cwS 2 hts gX0_lowerSum_X0_isBitOn rfl rfl rfl ok_X0_isBitOn ⟨Nat.le_of_ble_eq_true rfl, Nat.le_of_ble_eq_true rfl⟩) ⟨oo_blind, oo_ps hP hK [] rfl [] rfl⟩ rfl rfl hl.1 rfl (lv_room (Nat.le_of_ble_eq_true rfl)) dX0_lowerSum_15 ⟨Nat.le_of_ble_eq_true rfl, Nat.le_of_ble_eq_true rfl⟩) hP hS (fun H locs hP hS => ?_)
      refine lv_if_eq (tgt := 33) hx hb dX0_lowerSum_18 (by decide) (fun c_18 => ?_) (fun c_18 => ?_)
      · refine lv_iinc (v := nI (n + 1)) (lv' := [(5, .int (nI (n + 1))), (0, .ref h), (1, .long b), (3, .long (kl_low lw b n))]) hx hb dX0_lowerSum_33 hl (k := 3) rfl (oo_inc n 1) (by decide) rfl (fun ls hl => ?_)
        refine lv_goto (tgt := 5) hx hb dX0_lowerSum_36 (by decide) ?_
        have hl : lv_has ls 6 [(0, .ref h), (1, .long b), (3, .long (kl_low lw b n)), (5, .int (nI (n + 1)))] := lv_sub hl [1, 2, 3, 0] rfl
        have hl := Eq.mp (congrArg (fun z9 => lv_has ls 6 [(0, .ref h), (1, .long b), (3, .long z9), (5, .int (nI (n + 1)))]) (show kl_low lw b n = kl_low lw b (n + 1) from (by first | rfl | (simp only [kl_low]; done) | (simp only [kl_low]; rw [if_pos c_18])))) hl
        exact ihn _ _ _ ⟨hP, hS, hl⟩
      · refine lv_lload_n hx hb dX0_lowerSum_21 rfl (lv_at hl 2 rfl) ?_
        refine lv_aload_n hx hb dX0_lowerSum_22 rfl (lv_at hl 0 rfl) ?_
        refine va_get (D := D) (ci := 0) (v := .ref a3) (C := RX0) (T := TX0) (N := 8) hx hb hts hin hown hK hP 0 rfl rfl 2 (by decide) (hts (.fieldLink RX0 16 "OddsSampling" "lowerWeights" "[J") (by decide +kernel)) (fun _ h9 => h9) rfl dX0_lowerSum_23 ?_
        refine lv_iload hx hb dX0_lowerSum_26 (lv_at hl 3 rfl) ?_
        refine ro_calll (va_runS (As := [.ref a3, .int (nI n)]) (rest := [.long (kl_low lw b n)]) ⟨hx, hb, hml, hown, hts⟩ (kX0_at l D cJ a3 64 lw (nI n) (by omega)) (va_cwS 2 hts gX0_lowerSum_X0_at rfl rfl rfl ok_X0_at ⟨Nat.le_of_ble_eq_true rfl, Nat.le_of_ble_eq_true rfl⟩) ⟨oo_blind, oo_ps hP hK [3] rfl [0] rfl⟩ rfl rfl hl.1 rfl (lv_room (Nat.le_of_ble_eq_true rfl)) dX0_lowerSum_28 ⟨Nat.le_of_ble_eq_true rfl, Nat.le_of_ble_eq_true rfl⟩) hP hS (fun H locs hP hS => ?_)
        refine lv_ladd hx hb dX0_lowerSum_31 ?_
        refine lv_lstore_n (lv' := [(3, .long ((kl_low lw b n) + (kvX0_at 64 lw (nI n)))), (0, .ref h), (1, .long b), (5, .int (nI n))]) hx hb dX0_lowerSum_32 rfl hl (by decide) rfl (fun ls hl => ?_)
        refine lv_iinc (v := nI (n + 1)) (lv' := [(5, .int (nI (n + 1))), (3, .long ((kl_low lw b n) + (kvX0_at 64 lw (nI n)))), (0, .ref h), (1, .long b)]) hx hb dX0_lowerSum_33 hl (k := 3) rfl (oo_inc n 1) (by decide) rfl (fun ls hl => ?_)
        refine lv_goto (tgt := 5) hx hb dX0_lowerSum_36 (by decide) ?_
        have hl : lv_has ls 6 [(0, .ref h), (1, .long b), (3, .long ((kl_low lw b n) + (kvX0_at 64 lw (nI n)))), (5, .int (nI (n + 1)))] := lv_sub hl [2, 3, 1, 0] rfl
        have hl := Eq.mp (congrArg (fun z9 => lv_has ls 6 [(0, .ref h), (1, .long b), (3, .long z9), (5, .int (nI (n + 1)))]) (show (kl_low lw b n) + (kvX0_at 64 lw (nI n)) = kl_low lw b (n + 1) from (by first | rfl | (simp only [kl_low]; done) | (simp only [kl_low]; rw [if_neg c_18])))) hl
        exact ihn _ _ _ ⟨hP, hS, hl⟩
def kl_sum (lw uw an : Nat → Int64) (qn : Nat) (q r : Int32) : Nat → Int64
  | 0 => 0
  | n + 1 => if lg_cmp (kvX0_at 64 uw (nI n)) 0 = 0 then kl_sum lw uw an qn q r n else kl_sum lw uw an qn q r n + kvX0_at 64 uw (nI n) * kvX0_lowerSum lw (kvX0_blockOf an qn q (nI n) &&& kvX0_blockOf an qn r (nI n))
theorem ok_X0_sumOfBoth : yX0_sumOfBoth.cls = RX0 ∧ yX0_sumOfBoth.cls ≠ "java/lang/invoke/MethodHandle" ∧ yX0_sumOfBoth.cls ≠ "java/lang/invoke/VarHandle" ∧ (parseMethodDescriptor yX0_sumOfBoth.desc).map (fun d => d.parameters.length) = some 2 := by decide +kernel
def kvX0_sumOfBoth (lw : Nat → Int64) (uw : Nat → Int64) (an : Nat → Int64) (qn : Nat) (q : Int32) (r : Int32) : Int64 := kl_sum lw uw an qn q r 64
set_option maxHeartbeats 4000000 in
set_option maxRecDepth 100000 in
theorem kX0_sumOfBoth (l : Launch) (D : va_G) (cJ : ClassId) (h a1 a2 a3 a4 a5 : Nat) (u d lw uw an : Nat → Int64) (fn qn : Nat) (sd : Int64) (q : Int32) (r : Int32) : RoL l yX0_sumOfBoth wsX0_sumOfBoth ({ frames := 2, cells := 0, slots := 0, locals := 47 } : Room) [.ref h, .int q, .int r] D (xW cJ h a1 a2 a3 a4 a5 u d lw uw an (nI fn) (nI qn) sd) [(cJ, .long)] (kvX0_sumOfBoth lw uw an qn q r) := by
  refine oo_head (C := RX0) (cc := cX0_sumOfBoth) (maxL := 8) (ret := (some .long)) (by decide) rfl rfl (Nat.le_of_ble_eq_true rfl) ?_
  intro p e s m below meth c hx hb hr hlocks hml hown hnm hts hpre ls hl
  have hl : lv_has ls 8 [(0, .ref h), (1, .int q), (2, .int r)] := hl
  obtain ⟨hP, hK⟩ := hpre
  have hS : va_S oo_N s.heap s.heap [] := va_S.rf
  have hin : ∀ w ∈ wsX00, w ∈ wsX0_sumOfBoth := fun w h => List.mem_cons_of_mem _ (List.mem_append_right _ h)
  refine lv_lconst (v := (0 : Int64)) hx hb dX0_sumOfBoth_0 (by decide) ?_
  refine lv_lstore_n (lv' := [(3, .long (0 : Int64)), (0, .ref h), (1, .int q), (2, .int r)]) hx hb dX0_sumOfBoth_1 rfl hl (by decide) rfl (fun ls hl => ?_)
  refine lv_iconst (v := nI 0) hx hb dX0_sumOfBoth_2 (by decide) ?_
  refine lv_istore (lv' := [(5, .int (nI 0)), (3, .long (0 : Int64)), (0, .ref h), (1, .int q), (2, .int r)]) hx hb dX0_sumOfBoth_3 hl (by decide) rfl (fun ls hl => ?_)
  have hl : lv_has ls 8 [(0, .ref h), (1, .int q), (2, .int r), (3, .long (0 : Int64)), (5, .int (nI 0))] := lv_sub hl [2, 3, 4, 1, 0] rfl
  have hl := Eq.mp (congrArg (fun z9 => lv_has ls 8 [(0, .ref h), (1, .int q), (2, .int r), (3, .long z9), (5, .int (nI 0))]) (show (0 : Int64) = kl_sum lw uw an qn q r 0 from (by first | rfl | (simp only [kl_sum]; done)))) hl
  refine oo_loop (N := 64) (fun n H locs ls => va_P D vwCl (xW cJ h a1 a2 a3 a4 a5 u d lw uw an (nI fn) (nI qn) sd) H ∧ va_S (oo_N) s.heap H locs ∧ lv_has ls 8 [(0, .ref h), (1, .int q), (2, .int r), (3, .long (kl_sum lw uw an qn q r n)), (5, .int (nI n))]) ?_ ?_ 0 (Nat.zero_le _) ⟨hP, hS, hl⟩
  · intro H locs ls hI
    obtain ⟨hP, hS, hl⟩ := hI
    refine lv_iload hx hb dX0_sumOfBoth_5 (lv_at hl 4 rfl) ?_
    refine lv_bipush (v := nI 64) hx hb dX0_sumOfBoth_7 (by decide) ?_
    refine lv_icmp_ge (tgt := 61) hx hb dX0_sumOfBoth_9 (by decide) (fun c_9 => ?_) (fun c_9 => ?_)
    · refine lv_lload_n hx hb dX0_sumOfBoth_61 rfl (lv_at hl 3 rfl) ?_
      exact ro_retl hx hb hr hlocks hS (by unfold kvX0_sumOfBoth; rfl) dX0_sumOfBoth_62
    · exact absurd (nI_le (Nat.le_refl _) (by omega)) c_9
  · intro n hltn ihn H locs ls hI
    obtain ⟨hP, hS, hl⟩ := hI
    refine lv_iload hx hb dX0_sumOfBoth_5 (lv_at hl 4 rfl) ?_
    refine lv_bipush (v := nI 64) hx hb dX0_sumOfBoth_7 (by decide) ?_
    refine lv_icmp_ge (tgt := 61) hx hb dX0_sumOfBoth_9 (by decide) (fun c_9 => ?_) (fun c_9 => ?_)
    · exact absurd c_9 (nI_ge hltn (by omega))
    · refine lv_aload_n hx hb dX0_sumOfBoth_12 rfl (lv_at hl 0 rfl) ?_
      refine va_get (D := D) (ci := 0) (v := .ref a4) (C := RX0) (T := TX0) (N := 8) hx hb hts hin hown hK hP 0 rfl rfl 3 (by decide) (hts (.fieldLink RX0 19 "OddsSampling" "upperWeights" "[J") (by decide +kernel)) (fun _ h9 => h9) rfl dX0_sumOfBoth_13 ?_
      refine lv_iload hx hb dX0_sumOfBoth_16 (lv_at hl 4 rfl) ?_
      refine ro_calll (va_runS (As := [.ref a4, .int (nI n)]) (rest := []) ⟨hx, hb, hml, hown, hts⟩ (kX0_at l D cJ a4 64 uw (nI n) (by omega)) (va_cwS 2 hts gX0_sumOfBoth_X0_at rfl rfl rfl ok_X0_at ⟨Nat.le_of_ble_eq_true rfl, Nat.le_of_ble_eq_true rfl⟩) ⟨oo_blind, oo_ps hP hK [4] rfl [0] rfl⟩ rfl rfl hl.1 rfl (lv_room (Nat.le_of_ble_eq_true rfl)) dX0_sumOfBoth_18 ⟨Nat.le_of_ble_eq_true rfl, Nat.le_of_ble_eq_true rfl⟩) hP hS (fun H locs hP hS => ?_)
      refine lv_lstore (lv' := [(6, .long (kvX0_at 64 uw (nI n))), (0, .ref h), (1, .int q), (2, .int r), (3, .long (kl_sum lw uw an qn q r n)), (5, .int (nI n))]) hx hb dX0_sumOfBoth_21 hl (by decide) rfl (fun ls hl => ?_)
      refine lv_lload hx hb dX0_sumOfBoth_23 (lv_at hl 0 rfl) ?_
      refine lv_lconst (v := (0 : Int64)) hx hb dX0_sumOfBoth_25 (by decide) ?_
      refine W.lcmp hx hb dX0_sumOfBoth_26 ?_
      refine lv_if_eq (tgt := 55) hx hb dX0_sumOfBoth_27 (by decide) (fun c_27 => ?_) (fun c_27 => ?_)
      · refine lv_iinc (v := nI (n + 1)) (lv' := [(5, .int (nI (n + 1))), (6, .long (kvX0_at 64 uw (nI n))), (0, .ref h), (1, .int q), (2, .int r), (3, .long (kl_sum lw uw an qn q r n))]) hx hb dX0_sumOfBoth_55 hl (k := 5) rfl (oo_inc n 1) (by decide) rfl (fun ls hl => ?_)
        refine lv_goto (tgt := 5) hx hb dX0_sumOfBoth_58 (by decide) ?_
        have hl : lv_has ls 8 [(0, .ref h), (1, .int q), (2, .int r), (3, .long (kl_sum lw uw an qn q r n)), (5, .int (nI (n + 1)))] := lv_sub hl [2, 3, 4, 5, 0] rfl
        have hl := Eq.mp (congrArg (fun z9 => lv_has ls 8 [(0, .ref h), (1, .int q), (2, .int r), (3, .long z9), (5, .int (nI (n + 1)))]) (show kl_sum lw uw an qn q r n = kl_sum lw uw an qn q r (n + 1) from (by first | rfl | (simp only [kl_sum]; done) | (simp only [kl_sum]; rw [if_pos c_27])))) hl
        exact ihn _ _ _ ⟨hP, hS, hl⟩
      · refine lv_lload_n hx hb dX0_sumOfBoth_30 rfl (lv_at hl 4 rfl) ?_
        refine lv_lload hx hb dX0_sumOfBoth_31 (lv_at hl 0 rfl) ?_
        refine lv_aload_n hx hb dX0_sumOfBoth_33 rfl (lv_at hl 1 rfl) ?_
        refine lv_aload_n hx hb dX0_sumOfBoth_34 rfl (lv_at hl 1 rfl) ?_
        refine lv_iload_n hx hb dX0_sumOfBoth_35 rfl (lv_at hl 2 rfl) ?_
        refine lv_iload hx hb dX0_sumOfBoth_36 (lv_at hl 5 rfl) ?_
        refine ro_calll (va_runV (As := [.int q, .int (nI n)]) (rest := [.ref h, .long (kvX0_at 64 uw (nI n)), .long (kl_sum lw uw an qn q r n)]) ⟨hx, hb, hml, hown, hts⟩ (kX0_blockOf l D cJ h a1 a2 a3 a4 a5 u d lw uw an fn qn sd q (nI n)) (cwV 2 hts gX0_sumOfBoth_X0_blockOf rfl rfl rfl ok_X0_blockOf ⟨Nat.le_of_ble_eq_true rfl, Nat.le_of_ble_eq_true rfl⟩) ⟨oo_blind, va_recv hK hP (ci := 0) (q0 := 0) rfl rfl, oo_ps hP hK [0, 1, 2, 3, 4, 5] rfl [0] rfl⟩ rfl rfl hl.1 rfl (lv_room (Nat.le_of_ble_eq_true rfl)) dX0_sumOfBoth_38 ⟨Nat.le_of_ble_eq_true rfl, Nat.le_of_ble_eq_true rfl⟩) hP hS (fun H locs hP hS => ?_)
        refine lv_aload_n hx hb dX0_sumOfBoth_41 rfl (lv_at hl 1 rfl) ?_
        refine lv_iload_n hx hb dX0_sumOfBoth_42 rfl (lv_at hl 3 rfl) ?_
        refine lv_iload hx hb dX0_sumOfBoth_43 (lv_at hl 5 rfl) ?_
        refine ro_calll (va_runV (As := [.int r, .int (nI n)]) (rest := [.long (kvX0_blockOf an qn q (nI n)), .ref h, .long (kvX0_at 64 uw (nI n)), .long (kl_sum lw uw an qn q r n)]) ⟨hx, hb, hml, hown, hts⟩ (kX0_blockOf l D cJ h a1 a2 a3 a4 a5 u d lw uw an fn qn sd r (nI n)) (cwV 2 hts gX0_sumOfBoth_X0_blockOf rfl rfl rfl ok_X0_blockOf ⟨Nat.le_of_ble_eq_true rfl, Nat.le_of_ble_eq_true rfl⟩) ⟨oo_blind, va_recv hK hP (ci := 0) (q0 := 0) rfl rfl, oo_ps hP hK [0, 1, 2, 3, 4, 5] rfl [0] rfl⟩ rfl rfl hl.1 rfl (lv_room (Nat.le_of_ble_eq_true rfl)) dX0_sumOfBoth_45 ⟨Nat.le_of_ble_eq_true rfl, Nat.le_of_ble_eq_true rfl⟩) hP hS (fun H locs hP hS => ?_)
        refine lv_land hx hb dX0_sumOfBoth_48 ?_
        refine ro_calll (va_runV (As := [.long ((kvX0_blockOf an qn q (nI n)) &&& (kvX0_blockOf an qn r (nI n)))]) (rest := [.long (kvX0_at 64 uw (nI n)), .long (kl_sum lw uw an qn q r n)]) ⟨hx, hb, hml, hown, hts⟩ (kX0_lowerSum l D cJ h a1 a2 a3 a4 a5 u d lw uw an fn qn sd ((kvX0_blockOf an qn q (nI n)) &&& (kvX0_blockOf an qn r (nI n)))) (cwV 1 hts gX0_sumOfBoth_X0_lowerSum rfl rfl rfl ok_X0_lowerSum ⟨Nat.le_of_ble_eq_true rfl, Nat.le_of_ble_eq_true rfl⟩) ⟨oo_blind, va_recv hK hP (ci := 0) (q0 := 0) rfl rfl, oo_ps hP hK [0, 1, 2, 3, 4, 5] rfl [0] rfl⟩ rfl rfl hl.1 rfl (lv_room (Nat.le_of_ble_eq_true rfl)) dX0_sumOfBoth_49 ⟨Nat.le_of_ble_eq_true rfl, Nat.le_of_ble_eq_true rfl⟩) hP hS (fun H locs hP hS => ?_)
        refine lv_lmul hx hb dX0_sumOfBoth_52 ?_
        refine lv_ladd hx hb dX0_sumOfBoth_53 ?_
        refine lv_lstore_n (lv' := [(3, .long ((kl_sum lw uw an qn q r n) + ((kvX0_at 64 uw (nI n)) * (kvX0_lowerSum lw ((kvX0_blockOf an qn q (nI n)) &&& (kvX0_blockOf an qn r (nI n))))))), (6, .long (kvX0_at 64 uw (nI n))), (0, .ref h), (1, .int q), (2, .int r), (5, .int (nI n))]) hx hb dX0_sumOfBoth_54 rfl hl (by decide) rfl (fun ls hl => ?_)
        refine lv_iinc (v := nI (n + 1)) (lv' := [(5, .int (nI (n + 1))), (3, .long ((kl_sum lw uw an qn q r n) + ((kvX0_at 64 uw (nI n)) * (kvX0_lowerSum lw ((kvX0_blockOf an qn q (nI n)) &&& (kvX0_blockOf an qn r (nI n))))))), (6, .long (kvX0_at 64 uw (nI n))), (0, .ref h), (1, .int q), (2, .int r)]) hx hb dX0_sumOfBoth_55 hl (k := 5) rfl (oo_inc n 1) (by decide) rfl (fun ls hl => ?_)
        refine lv_goto (tgt := 5) hx hb dX0_sumOfBoth_58 (by decide) ?_
        have hl : lv_has ls 8 [(0, .ref h), (1, .int q), (2, .int r), (3, .long ((kl_sum lw uw an qn q r n) + ((kvX0_at 64 uw (nI n)) * (kvX0_lowerSum lw ((kvX0_blockOf an qn q (nI n)) &&& (kvX0_blockOf an qn r (nI n))))))), (5, .int (nI (n + 1)))] := lv_sub hl [3, 4, 5, 1, 0] rfl
        have hl := Eq.mp (congrArg (fun z9 => lv_has ls 8 [(0, .ref h), (1, .int q), (2, .int r), (3, .long z9), (5, .int (nI (n + 1)))]) (show (kl_sum lw uw an qn q r n) + ((kvX0_at 64 uw (nI n)) * (kvX0_lowerSum lw ((kvX0_blockOf an qn q (nI n)) &&& (kvX0_blockOf an qn r (nI n))))) = kl_sum lw uw an qn q r (n + 1) from (by first | rfl | (simp only [kl_sum]; done) | (simp only [kl_sum]; rw [if_neg c_27])))) hl
        exact ihn _ _ _ ⟨hP, hS, hl⟩
def kl_allBut (d : Nat → Int64) (k : Int32) : Nat → Int64
  | 0 => 1
  | n + 1 => if nI n = k then kl_allBut d k n else kl_allBut d k n * kvX0_at 12 d (nI n)
theorem ok_X0_allBut : yX0_allBut.cls = RX0 ∧ yX0_allBut.cls ≠ "java/lang/invoke/MethodHandle" ∧ yX0_allBut.cls ≠ "java/lang/invoke/VarHandle" ∧ (parseMethodDescriptor yX0_allBut.desc).map (fun d => d.parameters.length) = some 1 := by decide +kernel
def kvX0_allBut (d : Nat → Int64) (fn : Nat) (k : Int32) : Int64 := kl_allBut d k fn
set_option maxHeartbeats 4000000 in
set_option maxRecDepth 100000 in
theorem kX0_allBut (l : Launch) (D : va_G) (cJ : ClassId) (h a1 a2 a3 a4 a5 : Nat) (u d lw uw an : Nat → Int64) (fn qn : Nat) (sd : Int64) (k : Int32) (hfn : fn ≤ 12) : RoL l yX0_allBut wsX0_allBut ({ frames := 1, cells := 0, slots := 0, locals := 21 } : Room) [.ref h, .int k] D (xW cJ h a1 a2 a3 a4 a5 u d lw uw an (nI fn) (nI qn) sd) [(cJ, .long)] (kvX0_allBut d fn k) := by
  refine oo_head (C := RX0) (cc := cX0_allBut) (maxL := 5) (ret := (some .long)) (by decide) rfl rfl (Nat.le_of_ble_eq_true rfl) ?_
  intro p e s m below meth c hx hb hr hlocks hml hown hnm hts hpre ls hl
  have hl : lv_has ls 5 [(0, .ref h), (1, .int k)] := hl
  obtain ⟨hP, hK⟩ := hpre
  have hS : va_S oo_N s.heap s.heap [] := va_S.rf
  have hin : ∀ w ∈ wsX00, w ∈ wsX0_allBut := fun w h => List.mem_cons_of_mem _ (List.mem_append_right _ h)
  refine lv_lconst (v := (1 : Int64)) hx hb dX0_allBut_0 (by decide) ?_
  refine lv_lstore_n (lv' := [(2, .long (1 : Int64)), (0, .ref h), (1, .int k)]) hx hb dX0_allBut_1 rfl hl (by decide) rfl (fun ls hl => ?_)
  refine lv_iconst (v := nI 0) hx hb dX0_allBut_2 (by decide) ?_
  refine lv_istore (lv' := [(4, .int (nI 0)), (2, .long (1 : Int64)), (0, .ref h), (1, .int k)]) hx hb dX0_allBut_3 hl (by decide) rfl (fun ls hl => ?_)
  have hl : lv_has ls 5 [(0, .ref h), (1, .int k), (2, .long (1 : Int64)), (4, .int (nI 0))] := lv_sub hl [2, 3, 1, 0] rfl
  have hl := Eq.mp (congrArg (fun z9 => lv_has ls 5 [(0, .ref h), (1, .int k), (2, .long z9), (4, .int (nI 0))]) (show (1 : Int64) = kl_allBut d k 0 from (by first | rfl | (simp only [kl_allBut]; done)))) hl
  refine oo_loop (N := fn) (fun n H locs ls => va_P D vwCl (xW cJ h a1 a2 a3 a4 a5 u d lw uw an (nI fn) (nI qn) sd) H ∧ va_S (oo_N) s.heap H locs ∧ lv_has ls 5 [(0, .ref h), (1, .int k), (2, .long (kl_allBut d k n)), (4, .int (nI n))]) ?_ ?_ 0 (Nat.zero_le _) ⟨hP, hS, hl⟩
  · intro H locs ls hI
    obtain ⟨hP, hS, hl⟩ := hI
    refine lv_iload hx hb dX0_allBut_5 (lv_at hl 3 rfl) ?_
    refine lv_aload_n hx hb dX0_allBut_7 rfl (lv_at hl 0 rfl) ?_
    refine va_get (D := D) (ci := 0) (v := .int (nI fn)) (C := RX0) (T := TX0) (N := 8) hx hb hts hin hown hK hP 0 rfl rfl 5 (by decide) (hts (.fieldLink RX0 25 "OddsSampling" "factCount" "I") (by decide +kernel)) (fun _ h9 => h9) rfl dX0_allBut_8 ?_
    refine lv_icmp_ge (tgt := 38) hx hb dX0_allBut_11 (by decide) (fun c_11 => ?_) (fun c_11 => ?_)
    · refine lv_lload_n hx hb dX0_allBut_38 rfl (lv_at hl 2 rfl) ?_
      exact ro_retl hx hb hr hlocks hS (by unfold kvX0_allBut; rfl) dX0_allBut_39
    · exact absurd (nI_le (Nat.le_refl _) (by omega)) c_11
  · intro n hltn ihn H locs ls hI
    obtain ⟨hP, hS, hl⟩ := hI
    refine lv_iload hx hb dX0_allBut_5 (lv_at hl 3 rfl) ?_
    refine lv_aload_n hx hb dX0_allBut_7 rfl (lv_at hl 0 rfl) ?_
    refine va_get (D := D) (ci := 0) (v := .int (nI fn)) (C := RX0) (T := TX0) (N := 8) hx hb hts hin hown hK hP 0 rfl rfl 5 (by decide) (hts (.fieldLink RX0 25 "OddsSampling" "factCount" "I") (by decide +kernel)) (fun _ h9 => h9) rfl dX0_allBut_8 ?_
    refine lv_icmp_ge (tgt := 38) hx hb dX0_allBut_11 (by decide) (fun c_11 => ?_) (fun c_11 => ?_)
    · exact absurd c_11 (nI_ge hltn (by omega))
    · refine lv_iload hx hb dX0_allBut_14 (lv_at hl 3 rfl) ?_
      refine lv_iload_n hx hb dX0_allBut_16 rfl (lv_at hl 1 rfl) ?_
      refine lv_icmp_eq (tgt := 32) hx hb dX0_allBut_17 (by decide) (fun c_17 => ?_) (fun c_17 => ?_)
      · refine lv_iinc (v := nI (n + 1)) (lv' := [(4, .int (nI (n + 1))), (0, .ref h), (1, .int k), (2, .long (kl_allBut d k n))]) hx hb dX0_allBut_32 hl (k := 3) rfl (oo_inc n 1) (by decide) rfl (fun ls hl => ?_)
        refine lv_goto (tgt := 5) hx hb dX0_allBut_35 (by decide) ?_
        have hl : lv_has ls 5 [(0, .ref h), (1, .int k), (2, .long (kl_allBut d k n)), (4, .int (nI (n + 1)))] := lv_sub hl [1, 2, 3, 0] rfl
        have hl := Eq.mp (congrArg (fun z9 => lv_has ls 5 [(0, .ref h), (1, .int k), (2, .long z9), (4, .int (nI (n + 1)))]) (show kl_allBut d k n = kl_allBut d k (n + 1) from (by first | rfl | (simp only [kl_allBut]; done) | (simp only [kl_allBut]; rw [if_pos c_17])))) hl
        exact ihn _ _ _ ⟨hP, hS, hl⟩
      · refine lv_lload_n hx hb dX0_allBut_20 rfl (lv_at hl 2 rfl) ?_
        refine lv_aload_n hx hb dX0_allBut_21 rfl (lv_at hl 0 rfl) ?_
        refine va_get (D := D) (ci := 0) (v := .ref a2) (C := RX0) (T := TX0) (N := 8) hx hb hts hin hown hK hP 0 rfl rfl 1 (by decide) (hts (.fieldLink RX0 13 "OddsSampling" "downs" "[J") (by decide +kernel)) (fun _ h9 => h9) rfl dX0_allBut_22 ?_
        refine lv_iload hx hb dX0_allBut_25 (lv_at hl 3 rfl) ?_
        refine ro_calll (va_runS (As := [.ref a2, .int (nI n)]) (rest := [.long (kl_allBut d k n)]) ⟨hx, hb, hml, hown, hts⟩ (kX0_at l D cJ a2 12 d (nI n) (by omega)) (va_cwS 2 hts gX0_allBut_X0_at rfl rfl rfl ok_X0_at ⟨Nat.le_of_ble_eq_true rfl, Nat.le_of_ble_eq_true rfl⟩) ⟨oo_blind, oo_ps hP hK [2] rfl [0] rfl⟩ rfl rfl hl.1 rfl (lv_room (Nat.le_of_ble_eq_true rfl)) dX0_allBut_27 ⟨Nat.le_of_ble_eq_true rfl, Nat.le_of_ble_eq_true rfl⟩) hP hS (fun H locs hP hS => ?_)
        refine lv_lmul hx hb dX0_allBut_30 ?_
        refine lv_lstore_n (lv' := [(2, .long ((kl_allBut d k n) * (kvX0_at 12 d (nI n)))), (0, .ref h), (1, .int k), (4, .int (nI n))]) hx hb dX0_allBut_31 rfl hl (by decide) rfl (fun ls hl => ?_)
        refine lv_iinc (v := nI (n + 1)) (lv' := [(4, .int (nI (n + 1))), (2, .long ((kl_allBut d k n) * (kvX0_at 12 d (nI n)))), (0, .ref h), (1, .int k)]) hx hb dX0_allBut_32 hl (k := 3) rfl (oo_inc n 1) (by decide) rfl (fun ls hl => ?_)
        refine lv_goto (tgt := 5) hx hb dX0_allBut_35 (by decide) ?_
        have hl : lv_has ls 5 [(0, .ref h), (1, .int k), (2, .long ((kl_allBut d k n) * (kvX0_at 12 d (nI n)))), (4, .int (nI (n + 1)))] := lv_sub hl [2, 3, 1, 0] rfl
        have hl := Eq.mp (congrArg (fun z9 => lv_has ls 5 [(0, .ref h), (1, .int k), (2, .long z9), (4, .int (nI (n + 1)))]) (show (kl_allBut d k n) * (kvX0_at 12 d (nI n)) = kl_allBut d k (n + 1) from (by first | rfl | (simp only [kl_allBut]; done) | (simp only [kl_allBut]; rw [if_neg c_17])))) hl
        exact ihn _ _ _ ⟨hP, hS, hl⟩
def kl_lik (lw uw an : Nat → Int64) (qn : Nat) (q : Int32) : Nat → Int32 × Int64
  | 0 => (-2, -1)
  | n + 1 => if kvX0_isTrue an qn q (nI n) = 0 then kl_lik lw uw an qn q n else (if lg_cmp (kvX0_weightOf lw uw (nI n)) (kl_lik lw uw an qn q n).2 ≤ 0 then kl_lik lw uw an qn q n else (nI n, kvX0_weightOf lw uw (nI n)))
theorem ok_X0_likeliestWorld : yX0_likeliestWorld.cls = RX0 ∧ yX0_likeliestWorld.cls ≠ "java/lang/invoke/MethodHandle" ∧ yX0_likeliestWorld.cls ≠ "java/lang/invoke/VarHandle" ∧ (parseMethodDescriptor yX0_likeliestWorld.desc).map (fun d => d.parameters.length) = some 1 := by decide +kernel
def kvX0_likeliestWorld (lw : Nat → Int64) (uw : Nat → Int64) (an : Nat → Int64) (fn : Nat) (qn : Nat) (q : Int32) : Int32 := (kl_lik lw uw an qn q (2 ^ fn)).1
set_option maxHeartbeats 4000000 in
set_option maxRecDepth 100000 in
theorem kX0_likeliestWorld (l : Launch) (D : va_G) (cJ : ClassId) (h a1 a2 a3 a4 a5 : Nat) (u d lw uw an : Nat → Int64) (fn qn : Nat) (sd : Int64) (q : Int32) (hfn : fn ≤ 12) : RoI l yX0_likeliestWorld wsX0_likeliestWorld ({ frames := 3, cells := 0, slots := 0, locals := 67 } : Room) [.ref h, .int q] D (xW cJ h a1 a2 a3 a4 a5 u d lw uw an (nI fn) (nI qn) sd) [(cJ, .long)] (kvX0_likeliestWorld lw uw an fn qn q) := by
  refine oo_head (C := RX0) (cc := cX0_likeliestWorld) (maxL := 7) (ret := (some .int)) (by decide) rfl rfl (Nat.le_of_ble_eq_true rfl) ?_
  intro p e s m below meth c hx hb hr hlocks hml hown hnm hts hpre ls hl
  have hl : lv_has ls 7 [(0, .ref h), (1, .int q)] := hl
  obtain ⟨hP, hK⟩ := hpre
  have hS : va_S oo_N s.heap s.heap [] := va_S.rf
  have hin : ∀ w ∈ wsX00, w ∈ wsX0_likeliestWorld := fun w h => List.mem_cons_of_mem _ (List.mem_append_right _ h)
  have h2n : 2 ^ fn ≤ 2 ^ 12 := Nat.pow_le_pow_right (by omega) hfn
  refine lv_bipush (v := (-2 : Int32)) hx hb dX0_likeliestWorld_0 (by decide) ?_
  refine lv_istore_n (lv' := [(2, .int (-2 : Int32)), (0, .ref h), (1, .int q)]) hx hb dX0_likeliestWorld_2 rfl hl (by decide) rfl (fun ls hl => ?_)
  refine lv_ldc2 hx hb hown (hts (.constantLong RX0 98 (-1)) (by decide +kernel)) dX0_likeliestWorld_3 ?_
  refine lv_lstore_n (lv' := [(3, .long (-1 : Int64)), (2, .int (-2 : Int32)), (0, .ref h), (1, .int q)]) hx hb dX0_likeliestWorld_6 rfl hl (by decide) rfl (fun ls hl => ?_)
  refine lv_iconst (v := (1 : Int32)) hx hb dX0_likeliestWorld_7 (by decide) ?_
  refine lv_aload_n hx hb dX0_likeliestWorld_8 rfl (lv_at hl 2 rfl) ?_
  refine va_get (D := D) (ci := 0) (v := .int (nI fn)) (C := RX0) (T := TX0) (N := 8) hx hb hts hin hown hK hP 0 rfl rfl 5 (by decide) (hts (.fieldLink RX0 25 "OddsSampling" "factCount" "I") (by decide +kernel)) (fun _ h9 => h9) rfl dX0_likeliestWorld_9 ?_
  refine lv_ishl hx hb dX0_likeliestWorld_12 ?_
  refine oo_topI (y := nI (2 ^ fn)) (oo_shl1 fn (by omega)) ?_
  refine lv_istore (lv' := [(5, .int (nI (2 ^ fn))), (3, .long (-1 : Int64)), (2, .int (-2 : Int32)), (0, .ref h), (1, .int q)]) hx hb dX0_likeliestWorld_13 hl (by decide) rfl (fun ls hl => ?_)
  refine lv_iconst (v := nI 0) hx hb dX0_likeliestWorld_15 (by decide) ?_
  refine lv_istore (lv' := [(6, .int (nI 0)), (5, .int (nI (2 ^ fn))), (3, .long (-1 : Int64)), (2, .int (-2 : Int32)), (0, .ref h), (1, .int q)]) hx hb dX0_likeliestWorld_16 hl (by decide) rfl (fun ls hl => ?_)
  have hl : lv_has ls 7 [(0, .ref h), (1, .int q), (2, .int (-2 : Int32)), (3, .long (-1 : Int64)), (5, .int (nI (2 ^ fn))), (6, .int (nI 0))] := lv_sub hl [4, 5, 3, 2, 1, 0] rfl
  have hl := Eq.mp (congrArg (fun z9 => lv_has ls 7 [(0, .ref h), (1, .int q), (2, .int z9), (3, .long (-1 : Int64)), (5, .int (nI (2 ^ fn))), (6, .int (nI 0))]) (show (-2 : Int32) = (kl_lik lw uw an qn q 0).1 from (by first | rfl | (simp only [kl_lik]; done)))) hl
  have hl := Eq.mp (congrArg (fun z9 => lv_has ls 7 [(0, .ref h), (1, .int q), (2, .int ((kl_lik lw uw an qn q 0).1)), (3, .long z9), (5, .int (nI (2 ^ fn))), (6, .int (nI 0))]) (show (-1 : Int64) = (kl_lik lw uw an qn q 0).2 from (by first | rfl | (simp only [kl_lik]; done)))) hl
  refine oo_loop (N := (2 ^ fn)) (fun n H locs ls => va_P D vwCl (xW cJ h a1 a2 a3 a4 a5 u d lw uw an (nI fn) (nI qn) sd) H ∧ va_S (oo_N) s.heap H locs ∧ lv_has ls 7 [(0, .ref h), (1, .int q), (2, .int ((kl_lik lw uw an qn q n).1)), (3, .long ((kl_lik lw uw an qn q n).2)), (5, .int (nI (2 ^ fn))), (6, .int (nI n))]) ?_ ?_ 0 (Nat.zero_le _) ⟨hP, hS, hl⟩
  · intro H locs ls hI
    obtain ⟨hP, hS, hl⟩ := hI
    refine lv_iload hx hb dX0_likeliestWorld_18 (lv_at hl 5 rfl) ?_
    refine lv_iload hx hb dX0_likeliestWorld_20 (lv_at hl 4 rfl) ?_
    refine lv_icmp_ge (tgt := 62) hx hb dX0_likeliestWorld_22 (by decide) (fun c_22 => ?_) (fun c_22 => ?_)
    · refine lv_iload_n hx hb dX0_likeliestWorld_62 rfl (lv_at hl 2 rfl) ?_
      exact ro_reti hx hb hr hlocks hS (by unfold kvX0_likeliestWorld; rfl) dX0_likeliestWorld_63
    · exact absurd (nI_le (Nat.le_refl _) (by omega)) c_22
  · intro n hltn ihn H locs ls hI
    obtain ⟨hP, hS, hl⟩ := hI
    refine lv_iload hx hb dX0_likeliestWorld_18 (lv_at hl 5 rfl) ?_
    refine lv_iload hx hb dX0_likeliestWorld_20 (lv_at hl 4 rfl) ?_
    refine lv_icmp_ge (tgt := 62) hx hb dX0_likeliestWorld_22 (by decide) (fun c_22 => ?_) (fun c_22 => ?_)
    · exact absurd c_22 (nI_ge hltn (by omega))
    · refine lv_aload_n hx hb dX0_likeliestWorld_25 rfl (lv_at hl 0 rfl) ?_
      refine lv_iload_n hx hb dX0_likeliestWorld_26 rfl (lv_at hl 1 rfl) ?_
      refine lv_iload hx hb dX0_likeliestWorld_27 (lv_at hl 5 rfl) ?_
      refine ro_calli (va_runV (As := [.int q, .int (nI n)]) (rest := []) ⟨hx, hb, hml, hown, hts⟩ (kX0_isTrue l D cJ h a1 a2 a3 a4 a5 u d lw uw an fn qn sd q (nI n)) (cwV 2 hts gX0_likeliestWorld_X0_isTrue rfl rfl rfl ok_X0_isTrue ⟨Nat.le_of_ble_eq_true rfl, Nat.le_of_ble_eq_true rfl⟩) ⟨oo_blind, va_recv hK hP (ci := 0) (q0 := 0) rfl rfl, oo_ps hP hK [0, 1, 2, 3, 4, 5] rfl [0] rfl⟩ rfl rfl hl.1 rfl (lv_room (Nat.le_of_ble_eq_true rfl)) dX0_likeliestWorld_29 ⟨Nat.le_of_ble_eq_true rfl, Nat.le_of_ble_eq_true rfl⟩) hP hS (fun H locs hP hS => ?_)
      refine lv_if_eq (tgt := 56) hx hb dX0_likeliestWorld_32 (by decide) (fun c_32 => ?_) (fun c_32 => ?_)
      · refine lv_iinc (v := nI (n + 1)) (lv' := [(6, .int (nI (n + 1))), (0, .ref h), (1, .int q), (2, .int ((kl_lik lw uw an qn q n).1)), (3, .long ((kl_lik lw uw an qn q n).2)), (5, .int (nI (2 ^ fn)))]) hx hb dX0_likeliestWorld_56 hl (k := 5) rfl (oo_inc n 1) (by decide) rfl (fun ls hl => ?_)
        refine lv_goto (tgt := 18) hx hb dX0_likeliestWorld_59 (by decide) ?_
        have hl : lv_has ls 7 [(0, .ref h), (1, .int q), (2, .int ((kl_lik lw uw an qn q n).1)), (3, .long ((kl_lik lw uw an qn q n).2)), (5, .int (nI (2 ^ fn))), (6, .int (nI (n + 1)))] := lv_sub hl [1, 2, 3, 4, 5, 0] rfl
        have hl := Eq.mp (congrArg (fun z9 => lv_has ls 7 [(0, .ref h), (1, .int q), (2, .int z9), (3, .long ((kl_lik lw uw an qn q n).2)), (5, .int (nI (2 ^ fn))), (6, .int (nI (n + 1)))]) (show (kl_lik lw uw an qn q n).1 = (kl_lik lw uw an qn q (n + 1)).1 from (by first | rfl | (simp only [kl_lik]; done) | (simp only [kl_lik]; rw [if_pos c_32])))) hl
        have hl := Eq.mp (congrArg (fun z9 => lv_has ls 7 [(0, .ref h), (1, .int q), (2, .int ((kl_lik lw uw an qn q (n + 1)).1)), (3, .long z9), (5, .int (nI (2 ^ fn))), (6, .int (nI (n + 1)))]) (show (kl_lik lw uw an qn q n).2 = (kl_lik lw uw an qn q (n + 1)).2 from (by first | rfl | (simp only [kl_lik]; done) | (simp only [kl_lik]; rw [if_pos c_32])))) hl
        exact ihn _ _ _ ⟨hP, hS, hl⟩
      · refine lv_aload_n hx hb dX0_likeliestWorld_35 rfl (lv_at hl 0 rfl) ?_
        refine lv_iload hx hb dX0_likeliestWorld_36 (lv_at hl 5 rfl) ?_
        refine ro_calll (va_runV (As := [.int (nI n)]) (rest := []) ⟨hx, hb, hml, hown, hts⟩ (kX0_weightOf l D cJ h a1 a2 a3 a4 a5 u d lw uw an fn qn sd (nI n)) (cwV 1 hts gX0_likeliestWorld_X0_weightOf rfl rfl rfl ok_X0_weightOf ⟨Nat.le_of_ble_eq_true rfl, Nat.le_of_ble_eq_true rfl⟩) ⟨oo_blind, va_recv hK hP (ci := 0) (q0 := 0) rfl rfl, oo_ps hP hK [0, 1, 2, 3, 4, 5] rfl [0] rfl⟩ rfl rfl hl.1 rfl (lv_room (Nat.le_of_ble_eq_true rfl)) dX0_likeliestWorld_38 ⟨Nat.le_of_ble_eq_true rfl, Nat.le_of_ble_eq_true rfl⟩) hP hS (fun H locs hP hS => ?_)
        refine lv_lload_n hx hb dX0_likeliestWorld_41 rfl (lv_at hl 3 rfl) ?_
        refine W.lcmp hx hb dX0_likeliestWorld_42 ?_
        refine lv_if_le (tgt := 56) hx hb dX0_likeliestWorld_43 (by decide) (fun c_43 => ?_) (fun c_43 => ?_)
        · refine lv_iinc (v := nI (n + 1)) (lv' := [(6, .int (nI (n + 1))), (0, .ref h), (1, .int q), (2, .int ((kl_lik lw uw an qn q n).1)), (3, .long ((kl_lik lw uw an qn q n).2)), (5, .int (nI (2 ^ fn)))]) hx hb dX0_likeliestWorld_56 hl (k := 5) rfl (oo_inc n 1) (by decide) rfl (fun ls hl => ?_)
          refine lv_goto (tgt := 18) hx hb dX0_likeliestWorld_59 (by decide) ?_
          have hl : lv_has ls 7 [(0, .ref h), (1, .int q), (2, .int ((kl_lik lw uw an qn q n).1)), (3, .long ((kl_lik lw uw an qn q n).2)), (5, .int (nI (2 ^ fn))), (6, .int (nI (n + 1)))] := lv_sub hl [1, 2, 3, 4, 5, 0] rfl
          have hl := Eq.mp (congrArg (fun z9 => lv_has ls 7 [(0, .ref h), (1, .int q), (2, .int z9), (3, .long ((kl_lik lw uw an qn q n).2)), (5, .int (nI (2 ^ fn))), (6, .int (nI (n + 1)))]) (show (kl_lik lw uw an qn q n).1 = (kl_lik lw uw an qn q (n + 1)).1 from (by first | rfl | (simp only [kl_lik]; done) | (simp only [kl_lik]; rw [if_neg c_32, if_pos c_43])))) hl
          have hl := Eq.mp (congrArg (fun z9 => lv_has ls 7 [(0, .ref h), (1, .int q), (2, .int ((kl_lik lw uw an qn q (n + 1)).1)), (3, .long z9), (5, .int (nI (2 ^ fn))), (6, .int (nI (n + 1)))]) (show (kl_lik lw uw an qn q n).2 = (kl_lik lw uw an qn q (n + 1)).2 from (by first | rfl | (simp only [kl_lik]; done) | (simp only [kl_lik]; rw [if_neg c_32, if_pos c_43])))) hl
          exact ihn _ _ _ ⟨hP, hS, hl⟩
        · refine lv_iload hx hb dX0_likeliestWorld_46 (lv_at hl 5 rfl) ?_
          refine lv_istore_n (lv' := [(2, .int (nI n)), (0, .ref h), (1, .int q), (3, .long ((kl_lik lw uw an qn q n).2)), (5, .int (nI (2 ^ fn))), (6, .int (nI n))]) hx hb dX0_likeliestWorld_48 rfl hl (by decide) rfl (fun ls hl => ?_)
          refine lv_aload_n hx hb dX0_likeliestWorld_49 rfl (lv_at hl 1 rfl) ?_
          refine lv_iload hx hb dX0_likeliestWorld_50 (lv_at hl 5 rfl) ?_
          refine ro_calll (va_runV (As := [.int (nI n)]) (rest := []) ⟨hx, hb, hml, hown, hts⟩ (kX0_weightOf l D cJ h a1 a2 a3 a4 a5 u d lw uw an fn qn sd (nI n)) (cwV 1 hts gX0_likeliestWorld_X0_weightOf rfl rfl rfl ok_X0_weightOf ⟨Nat.le_of_ble_eq_true rfl, Nat.le_of_ble_eq_true rfl⟩) ⟨oo_blind, va_recv hK hP (ci := 0) (q0 := 0) rfl rfl, oo_ps hP hK [0, 1, 2, 3, 4, 5] rfl [0] rfl⟩ rfl rfl hl.1 rfl (lv_room (Nat.le_of_ble_eq_true rfl)) dX0_likeliestWorld_52 ⟨Nat.le_of_ble_eq_true rfl, Nat.le_of_ble_eq_true rfl⟩) hP hS (fun H locs hP hS => ?_)
          refine lv_lstore_n (lv' := [(3, .long (kvX0_weightOf lw uw (nI n))), (2, .int (nI n)), (0, .ref h), (1, .int q), (5, .int (nI (2 ^ fn))), (6, .int (nI n))]) hx hb dX0_likeliestWorld_55 rfl hl (by decide) rfl (fun ls hl => ?_)
          refine lv_iinc (v := nI (n + 1)) (lv' := [(6, .int (nI (n + 1))), (3, .long (kvX0_weightOf lw uw (nI n))), (2, .int (nI n)), (0, .ref h), (1, .int q), (5, .int (nI (2 ^ fn)))]) hx hb dX0_likeliestWorld_56 hl (k := 5) rfl (oo_inc n 1) (by decide) rfl (fun ls hl => ?_)
          refine lv_goto (tgt := 18) hx hb dX0_likeliestWorld_59 (by decide) ?_
          have hl : lv_has ls 7 [(0, .ref h), (1, .int q), (2, .int (nI n)), (3, .long (kvX0_weightOf lw uw (nI n))), (5, .int (nI (2 ^ fn))), (6, .int (nI (n + 1)))] := lv_sub hl [3, 4, 2, 1, 5, 0] rfl
          have hl := Eq.mp (congrArg (fun z9 => lv_has ls 7 [(0, .ref h), (1, .int q), (2, .int z9), (3, .long (kvX0_weightOf lw uw (nI n))), (5, .int (nI (2 ^ fn))), (6, .int (nI (n + 1)))]) (show nI n = (kl_lik lw uw an qn q (n + 1)).1 from (by first | rfl | (simp only [kl_lik]; done) | (simp only [kl_lik]; rw [if_neg c_32, if_neg c_43])))) hl
          have hl := Eq.mp (congrArg (fun z9 => lv_has ls 7 [(0, .ref h), (1, .int q), (2, .int ((kl_lik lw uw an qn q (n + 1)).1)), (3, .long z9), (5, .int (nI (2 ^ fn))), (6, .int (nI (n + 1)))]) (show kvX0_weightOf lw uw (nI n) = (kl_lik lw uw an qn q (n + 1)).2 from (by first | rfl | (simp only [kl_lik]; done) | (simp only [kl_lik]; rw [if_neg c_32, if_neg c_43])))) hl
          exact ihn _ _ _ ⟨hP, hS, hl⟩
def kl_gcd (a b : Int64) : Nat → Int64 × Int64
  | 0 => (a, b)
  | n + 1 => if lg_cmp (kl_gcd a b n).2 0 = 0 then kl_gcd a b n else ((kl_gcd a b n).2, (kl_gcd a b n).1 - (kl_gcd a b n).1 / (kl_gcd a b n).2 * (kl_gcd a b n).2)
def kl_abs (a : Int64) : Int64 := if 0 ≤ lg_cmp a 0 then a else -a
theorem kl_gcd_stop {a b : Int64} {n : Nat} (h : lg_cmp (kl_gcd a b n).2 0 = 0) : ∀ m, n ≤ m → kl_gcd a b m = kl_gcd a b n := by
  intro m hm
  induction hm with
  | refl => rfl
  | step hm ih => simp only [kl_gcd]; rw [ih, if_pos h]
theorem ok_X0_greatestDivisor : yX0_greatestDivisor.cls ≠ "java/lang/invoke/MethodHandle" ∧ yX0_greatestDivisor.cls ≠ "java/lang/invoke/VarHandle" ∧ (parseMethodDescriptor yX0_greatestDivisor.desc).map (fun d => d.parameters.length) = some 2 := by decide +kernel
set_option maxHeartbeats 4000000 in
set_option maxRecDepth 100000 in
theorem kX0_greatestDivisor (l : Launch) (D : va_G) (a : Int64) (b : Int64) : RoL l yX0_greatestDivisor wsX0_greatestDivisor ({ frames := 0, cells := 0, slots := 0, locals := 0 } : Room) [.long a, .long b] D ([]) [] ((kl_gcd (kl_abs a) (kl_abs b) 100).1) := by
  refine oo_head (C := RX0) (cc := cX0_greatestDivisor) (maxL := 11) (ret := (some .long)) (by decide) rfl rfl (Nat.le_of_ble_eq_true rfl) ?_
  intro p e s m below meth c hx hb hr hlocks hml hown hnm hts hpre ls hl
  have hl : lv_has ls 11 [(0, .long a), (2, .long b)] := hl
  obtain ⟨hP, hK⟩ := hpre
  have hS : va_S oo_N s.heap s.heap [] := va_S.rf
  refine lv_lload_n hx hb dX0_greatestDivisor_0 rfl (lv_at hl 0 rfl) ?_
  refine lv_lconst (v := (0 : Int64)) hx hb dX0_greatestDivisor_1 (by decide) ?_
  refine W.lcmp hx hb dX0_greatestDivisor_2 ?_
  refine lv_if_ge (tgt := 11) hx hb dX0_greatestDivisor_3 (by decide) (fun c_3 => ?_) (fun c_3 => ?_)
  · refine lv_lload_n hx hb dX0_greatestDivisor_11 rfl (lv_at hl 0 rfl) ?_
    refine oo_topL (y := kl_abs a) (if_pos c_3).symm ?_
    refine lv_lstore (lv' := [(4, .long (kl_abs a)), (0, .long a), (2, .long b)]) hx hb dX0_greatestDivisor_12 hl (by decide) rfl (fun ls hl => ?_)
    refine lv_lload_n hx hb dX0_greatestDivisor_14 rfl (lv_at hl 2 rfl) ?_
    refine lv_lconst (v := (0 : Int64)) hx hb dX0_greatestDivisor_15 (by decide) ?_
    refine W.lcmp hx hb dX0_greatestDivisor_16 ?_
    refine lv_if_ge (tgt := 25) hx hb dX0_greatestDivisor_17 (by decide) (fun c_17 => ?_) (fun c_17 => ?_)
    · refine lv_lload_n hx hb dX0_greatestDivisor_25 rfl (lv_at hl 2 rfl) ?_
      refine oo_topL (y := kl_abs b) (if_pos c_17).symm ?_
      refine lv_lstore (lv' := [(6, .long (kl_abs b)), (4, .long (kl_abs a)), (0, .long a), (2, .long b)]) hx hb dX0_greatestDivisor_26 hl (by decide) rfl (fun ls hl => ?_)
      refine lv_iconst (v := nI 0) hx hb dX0_greatestDivisor_28 (by decide) ?_
      refine lv_istore (lv' := [(8, .int (nI 0)), (6, .long (kl_abs b)), (4, .long (kl_abs a)), (0, .long a), (2, .long b)]) hx hb dX0_greatestDivisor_29 hl (by decide) rfl (fun ls hl => ?_)
      have hl : lv_has ls 11 [(0, .long a), (2, .long b), (4, .long (kl_abs a)), (6, .long (kl_abs b)), (8, .int (nI 0))] := lv_sub hl [3, 4, 2, 1, 0] rfl
      have hl := Eq.mp (congrArg (fun z9 => lv_has ls 11 [(0, .long a), (2, .long b), (4, .long z9), (6, .long (kl_abs b)), (8, .int (nI 0))]) (show kl_abs a = (kl_gcd (kl_abs a) (kl_abs b) 0).1 from (by first | rfl | (simp only [kl_gcd]; done) | (simp only [kl_gcd]; rw [if_pos c_3, if_pos c_17])))) hl
      have hl := Eq.mp (congrArg (fun z9 => lv_has ls 11 [(0, .long a), (2, .long b), (4, .long ((kl_gcd (kl_abs a) (kl_abs b) 0).1)), (6, .long z9), (8, .int (nI 0))]) (show kl_abs b = (kl_gcd (kl_abs a) (kl_abs b) 0).2 from (by first | rfl | (simp only [kl_gcd]; done) | (simp only [kl_gcd]; rw [if_pos c_3, if_pos c_17])))) hl
      refine oo_loop (N := 100) (fun n H locs ls => va_P D vwCl ([]) H ∧ va_S (oo_N) s.heap H locs ∧ lv_has ls 11 [(0, .long a), (2, .long b), (4, .long ((kl_gcd (kl_abs a) (kl_abs b) n).1)), (6, .long ((kl_gcd (kl_abs a) (kl_abs b) n).2)), (8, .int (nI n))]) ?_ ?_ 0 (Nat.zero_le _) ⟨hP, hS, hl⟩
      · intro H locs ls hI
        obtain ⟨hP, hS, hl⟩ := hI
        refine lv_iload hx hb dX0_greatestDivisor_31 (lv_at hl 4 rfl) ?_
        refine lv_bipush (v := nI 100) hx hb dX0_greatestDivisor_33 (by decide) ?_
        refine lv_icmp_ge (tgt := 66) hx hb dX0_greatestDivisor_35 (by decide) (fun c_35 => ?_) (fun c_35 => ?_)
        · refine lv_lload hx hb dX0_greatestDivisor_66 (lv_at hl 2 rfl) ?_
          exact ro_retl hx hb hr hlocks hS rfl dX0_greatestDivisor_68
        · exact absurd (nI_le (Nat.le_refl _) (by omega)) c_35
      · intro n hltn ihn H locs ls hI
        obtain ⟨hP, hS, hl⟩ := hI
        refine lv_iload hx hb dX0_greatestDivisor_31 (lv_at hl 4 rfl) ?_
        refine lv_bipush (v := nI 100) hx hb dX0_greatestDivisor_33 (by decide) ?_
        refine lv_icmp_ge (tgt := 66) hx hb dX0_greatestDivisor_35 (by decide) (fun c_35 => ?_) (fun c_35 => ?_)
        · exact absurd c_35 (nI_ge hltn (by omega))
        · refine lv_lload hx hb dX0_greatestDivisor_38 (lv_at hl 3 rfl) ?_
          refine lv_lconst (v := (0 : Int64)) hx hb dX0_greatestDivisor_40 (by decide) ?_
          refine W.lcmp hx hb dX0_greatestDivisor_41 ?_
          refine lv_if_eq (tgt := 66) hx hb dX0_greatestDivisor_42 (by decide) (fun c_42 => ?_) (fun c_42 => ?_)
          · refine lv_lload hx hb dX0_greatestDivisor_66 (lv_at hl 2 rfl) ?_
            exact ro_retl hx hb hr hlocks hS (congrArg Prod.fst (kl_gcd_stop c_42 100 (by omega)).symm) dX0_greatestDivisor_68
          · refine lv_lload hx hb dX0_greatestDivisor_45 (lv_at hl 2 rfl) ?_
            refine lv_lload hx hb dX0_greatestDivisor_47 (lv_at hl 3 rfl) ?_
            refine lv_lrem hx hb dX0_greatestDivisor_49 (oo_nz2 c_42) ?_
            refine lv_lstore (lv' := [(9, .long (((kl_gcd (kl_abs a) (kl_abs b) n).1) - ((kl_gcd (kl_abs a) (kl_abs b) n).1) / ((kl_gcd (kl_abs a) (kl_abs b) n).2) * ((kl_gcd (kl_abs a) (kl_abs b) n).2))), (0, .long a), (2, .long b), (4, .long ((kl_gcd (kl_abs a) (kl_abs b) n).1)), (6, .long ((kl_gcd (kl_abs a) (kl_abs b) n).2)), (8, .int (nI n))]) hx hb dX0_greatestDivisor_50 hl (by decide) rfl (fun ls hl => ?_)
            refine lv_lload hx hb dX0_greatestDivisor_52 (lv_at hl 4 rfl) ?_
            refine lv_lstore (lv' := [(4, .long ((kl_gcd (kl_abs a) (kl_abs b) n).2)), (9, .long (((kl_gcd (kl_abs a) (kl_abs b) n).1) - ((kl_gcd (kl_abs a) (kl_abs b) n).1) / ((kl_gcd (kl_abs a) (kl_abs b) n).2) * ((kl_gcd (kl_abs a) (kl_abs b) n).2))), (0, .long a), (2, .long b), (6, .long ((kl_gcd (kl_abs a) (kl_abs b) n).2)), (8, .int (nI n))]) hx hb dX0_greatestDivisor_54 hl (by decide) rfl (fun ls hl => ?_)
            refine lv_lload hx hb dX0_greatestDivisor_56 (lv_at hl 1 rfl) ?_
            refine lv_lstore (lv' := [(6, .long (((kl_gcd (kl_abs a) (kl_abs b) n).1) - ((kl_gcd (kl_abs a) (kl_abs b) n).1) / ((kl_gcd (kl_abs a) (kl_abs b) n).2) * ((kl_gcd (kl_abs a) (kl_abs b) n).2))), (4, .long ((kl_gcd (kl_abs a) (kl_abs b) n).2)), (9, .long (((kl_gcd (kl_abs a) (kl_abs b) n).1) - ((kl_gcd (kl_abs a) (kl_abs b) n).1) / ((kl_gcd (kl_abs a) (kl_abs b) n).2) * ((kl_gcd (kl_abs a) (kl_abs b) n).2))), (0, .long a), (2, .long b), (8, .int (nI n))]) hx hb dX0_greatestDivisor_58 hl (by decide) rfl (fun ls hl => ?_)
            refine lv_iinc (v := nI (n + 1)) (lv' := [(8, .int (nI (n + 1))), (6, .long (((kl_gcd (kl_abs a) (kl_abs b) n).1) - ((kl_gcd (kl_abs a) (kl_abs b) n).1) / ((kl_gcd (kl_abs a) (kl_abs b) n).2) * ((kl_gcd (kl_abs a) (kl_abs b) n).2))), (4, .long ((kl_gcd (kl_abs a) (kl_abs b) n).2)), (9, .long (((kl_gcd (kl_abs a) (kl_abs b) n).1) - ((kl_gcd (kl_abs a) (kl_abs b) n).1) / ((kl_gcd (kl_abs a) (kl_abs b) n).2) * ((kl_gcd (kl_abs a) (kl_abs b) n).2))), (0, .long a), (2, .long b)]) hx hb dX0_greatestDivisor_60 hl (k := 5) rfl (oo_inc n 1) (by decide) rfl (fun ls hl => ?_)
            refine lv_goto (tgt := 31) hx hb dX0_greatestDivisor_63 (by decide) ?_
            have hl : lv_has ls 11 [(0, .long a), (2, .long b), (4, .long ((kl_gcd (kl_abs a) (kl_abs b) n).2)), (6, .long (((kl_gcd (kl_abs a) (kl_abs b) n).1) - ((kl_gcd (kl_abs a) (kl_abs b) n).1) / ((kl_gcd (kl_abs a) (kl_abs b) n).2) * ((kl_gcd (kl_abs a) (kl_abs b) n).2))), (8, .int (nI (n + 1)))] := lv_sub hl [4, 5, 2, 1, 0] rfl
            have hl := Eq.mp (congrArg (fun z9 => lv_has ls 11 [(0, .long a), (2, .long b), (4, .long z9), (6, .long (((kl_gcd (kl_abs a) (kl_abs b) n).1) - ((kl_gcd (kl_abs a) (kl_abs b) n).1) / ((kl_gcd (kl_abs a) (kl_abs b) n).2) * ((kl_gcd (kl_abs a) (kl_abs b) n).2))), (8, .int (nI (n + 1)))]) (show (kl_gcd (kl_abs a) (kl_abs b) n).2 = (kl_gcd (kl_abs a) (kl_abs b) (n + 1)).1 from (by first | rfl | (simp only [kl_gcd]; done) | (simp only [kl_gcd]; rw [if_neg c_42])))) hl
            have hl := Eq.mp (congrArg (fun z9 => lv_has ls 11 [(0, .long a), (2, .long b), (4, .long ((kl_gcd (kl_abs a) (kl_abs b) (n + 1)).1)), (6, .long z9), (8, .int (nI (n + 1)))]) (show ((kl_gcd (kl_abs a) (kl_abs b) n).1) - ((kl_gcd (kl_abs a) (kl_abs b) n).1) / ((kl_gcd (kl_abs a) (kl_abs b) n).2) * ((kl_gcd (kl_abs a) (kl_abs b) n).2) = (kl_gcd (kl_abs a) (kl_abs b) (n + 1)).2 from (by first | rfl | (simp only [kl_gcd]; done) | (simp only [kl_gcd]; rw [if_neg c_42])))) hl
            exact ihn _ _ _ ⟨hP, hS, hl⟩
    · refine lv_lload_n hx hb dX0_greatestDivisor_20 rfl (lv_at hl 2 rfl) ?_
      refine lv_lneg hx hb dX0_greatestDivisor_21 ?_
      refine oo_topL (y := kl_abs b) (if_neg c_17).symm ?_
      refine lv_goto (tgt := 26) hx hb dX0_greatestDivisor_22 (by decide) ?_
      refine lv_lstore (lv' := [(6, .long (kl_abs b)), (4, .long (kl_abs a)), (0, .long a), (2, .long b)]) hx hb dX0_greatestDivisor_26 hl (by decide) rfl (fun ls hl => ?_)
      refine lv_iconst (v := nI 0) hx hb dX0_greatestDivisor_28 (by decide) ?_
      refine lv_istore (lv' := [(8, .int (nI 0)), (6, .long (kl_abs b)), (4, .long (kl_abs a)), (0, .long a), (2, .long b)]) hx hb dX0_greatestDivisor_29 hl (by decide) rfl (fun ls hl => ?_)
      have hl : lv_has ls 11 [(0, .long a), (2, .long b), (4, .long (kl_abs a)), (6, .long (kl_abs b)), (8, .int (nI 0))] := lv_sub hl [3, 4, 2, 1, 0] rfl
      have hl := Eq.mp (congrArg (fun z9 => lv_has ls 11 [(0, .long a), (2, .long b), (4, .long z9), (6, .long (kl_abs b)), (8, .int (nI 0))]) (show kl_abs a = (kl_gcd (kl_abs a) (kl_abs b) 0).1 from (by first | rfl | (simp only [kl_gcd]; done) | (simp only [kl_gcd]; rw [if_pos c_3, if_neg c_17])))) hl
      have hl := Eq.mp (congrArg (fun z9 => lv_has ls 11 [(0, .long a), (2, .long b), (4, .long ((kl_gcd (kl_abs a) (kl_abs b) 0).1)), (6, .long z9), (8, .int (nI 0))]) (show kl_abs b = (kl_gcd (kl_abs a) (kl_abs b) 0).2 from (by first | rfl | (simp only [kl_gcd]; done) | (simp only [kl_gcd]; rw [if_pos c_3, if_neg c_17])))) hl
      refine oo_loop (N := 100) (fun n H locs ls => va_P D vwCl ([]) H ∧ va_S (oo_N) s.heap H locs ∧ lv_has ls 11 [(0, .long a), (2, .long b), (4, .long ((kl_gcd (kl_abs a) (kl_abs b) n).1)), (6, .long ((kl_gcd (kl_abs a) (kl_abs b) n).2)), (8, .int (nI n))]) ?_ ?_ 0 (Nat.zero_le _) ⟨hP, hS, hl⟩
      · intro H locs ls hI
        obtain ⟨hP, hS, hl⟩ := hI
        refine lv_iload hx hb dX0_greatestDivisor_31 (lv_at hl 4 rfl) ?_
        refine lv_bipush (v := nI 100) hx hb dX0_greatestDivisor_33 (by decide) ?_
        refine lv_icmp_ge (tgt := 66) hx hb dX0_greatestDivisor_35 (by decide) (fun c_35 => ?_) (fun c_35 => ?_)
        · refine lv_lload hx hb dX0_greatestDivisor_66 (lv_at hl 2 rfl) ?_
          exact ro_retl hx hb hr hlocks hS rfl dX0_greatestDivisor_68
        · exact absurd (nI_le (Nat.le_refl _) (by omega)) c_35
      · intro n hltn ihn H locs ls hI
        obtain ⟨hP, hS, hl⟩ := hI
        refine lv_iload hx hb dX0_greatestDivisor_31 (lv_at hl 4 rfl) ?_
        refine lv_bipush (v := nI 100) hx hb dX0_greatestDivisor_33 (by decide) ?_
        refine lv_icmp_ge (tgt := 66) hx hb dX0_greatestDivisor_35 (by decide) (fun c_35 => ?_) (fun c_35 => ?_)
        · exact absurd c_35 (nI_ge hltn (by omega))
        · refine lv_lload hx hb dX0_greatestDivisor_38 (lv_at hl 3 rfl) ?_
          refine lv_lconst (v := (0 : Int64)) hx hb dX0_greatestDivisor_40 (by decide) ?_
          refine W.lcmp hx hb dX0_greatestDivisor_41 ?_
          refine lv_if_eq (tgt := 66) hx hb dX0_greatestDivisor_42 (by decide) (fun c_42 => ?_) (fun c_42 => ?_)
          · refine lv_lload hx hb dX0_greatestDivisor_66 (lv_at hl 2 rfl) ?_
            exact ro_retl hx hb hr hlocks hS (congrArg Prod.fst (kl_gcd_stop c_42 100 (by omega)).symm) dX0_greatestDivisor_68
          · refine lv_lload hx hb dX0_greatestDivisor_45 (lv_at hl 2 rfl) ?_
            refine lv_lload hx hb dX0_greatestDivisor_47 (lv_at hl 3 rfl) ?_
            refine lv_lrem hx hb dX0_greatestDivisor_49 (oo_nz2 c_42) ?_
            refine lv_lstore (lv' := [(9, .long (((kl_gcd (kl_abs a) (kl_abs b) n).1) - ((kl_gcd (kl_abs a) (kl_abs b) n).1) / ((kl_gcd (kl_abs a) (kl_abs b) n).2) * ((kl_gcd (kl_abs a) (kl_abs b) n).2))), (0, .long a), (2, .long b), (4, .long ((kl_gcd (kl_abs a) (kl_abs b) n).1)), (6, .long ((kl_gcd (kl_abs a) (kl_abs b) n).2)), (8, .int (nI n))]) hx hb dX0_greatestDivisor_50 hl (by decide) rfl (fun ls hl => ?_)
            refine lv_lload hx hb dX0_greatestDivisor_52 (lv_at hl 4 rfl) ?_
            refine lv_lstore (lv' := [(4, .long ((kl_gcd (kl_abs a) (kl_abs b) n).2)), (9, .long (((kl_gcd (kl_abs a) (kl_abs b) n).1) - ((kl_gcd (kl_abs a) (kl_abs b) n).1) / ((kl_gcd (kl_abs a) (kl_abs b) n).2) * ((kl_gcd (kl_abs a) (kl_abs b) n).2))), (0, .long a), (2, .long b), (6, .long ((kl_gcd (kl_abs a) (kl_abs b) n).2)), (8, .int (nI n))]) hx hb dX0_greatestDivisor_54 hl (by decide) rfl (fun ls hl => ?_)
            refine lv_lload hx hb dX0_greatestDivisor_56 (lv_at hl 1 rfl) ?_
            refine lv_lstore (lv' := [(6, .long (((kl_gcd (kl_abs a) (kl_abs b) n).1) - ((kl_gcd (kl_abs a) (kl_abs b) n).1) / ((kl_gcd (kl_abs a) (kl_abs b) n).2) * ((kl_gcd (kl_abs a) (kl_abs b) n).2))), (4, .long ((kl_gcd (kl_abs a) (kl_abs b) n).2)), (9, .long (((kl_gcd (kl_abs a) (kl_abs b) n).1) - ((kl_gcd (kl_abs a) (kl_abs b) n).1) / ((kl_gcd (kl_abs a) (kl_abs b) n).2) * ((kl_gcd (kl_abs a) (kl_abs b) n).2))), (0, .long a), (2, .long b), (8, .int (nI n))]) hx hb dX0_greatestDivisor_58 hl (by decide) rfl (fun ls hl => ?_)
            refine lv_iinc (v := nI (n + 1)) (lv' := [(8, .int (nI (n + 1))), (6, .long (((kl_gcd (kl_abs a) (kl_abs b) n).1) - ((kl_gcd (kl_abs a) (kl_abs b) n).1) / ((kl_gcd (kl_abs a) (kl_abs b) n).2) * ((kl_gcd (kl_abs a) (kl_abs b) n).2))), (4, .long ((kl_gcd (kl_abs a) (kl_abs b) n).2)), (9, .long (((kl_gcd (kl_abs a) (kl_abs b) n).1) - ((kl_gcd (kl_abs a) (kl_abs b) n).1) / ((kl_gcd (kl_abs a) (kl_abs b) n).2) * ((kl_gcd (kl_abs a) (kl_abs b) n).2))), (0, .long a), (2, .long b)]) hx hb dX0_greatestDivisor_60 hl (k := 5) rfl (oo_inc n 1) (by decide) rfl (fun ls hl => ?_)
            refine lv_goto (tgt := 31) hx hb dX0_greatestDivisor_63 (by decide) ?_
            have hl : lv_has ls 11 [(0, .long a), (2, .long b), (4, .long ((kl_gcd (kl_abs a) (kl_abs b) n).2)), (6, .long (((kl_gcd (kl_abs a) (kl_abs b) n).1) - ((kl_gcd (kl_abs a) (kl_abs b) n).1) / ((kl_gcd (kl_abs a) (kl_abs b) n).2) * ((kl_gcd (kl_abs a) (kl_abs b) n).2))), (8, .int (nI (n + 1)))] := lv_sub hl [4, 5, 2, 1, 0] rfl
            have hl := Eq.mp (congrArg (fun z9 => lv_has ls 11 [(0, .long a), (2, .long b), (4, .long z9), (6, .long (((kl_gcd (kl_abs a) (kl_abs b) n).1) - ((kl_gcd (kl_abs a) (kl_abs b) n).1) / ((kl_gcd (kl_abs a) (kl_abs b) n).2) * ((kl_gcd (kl_abs a) (kl_abs b) n).2))), (8, .int (nI (n + 1)))]) (show (kl_gcd (kl_abs a) (kl_abs b) n).2 = (kl_gcd (kl_abs a) (kl_abs b) (n + 1)).1 from (by first | rfl | (simp only [kl_gcd]; done) | (simp only [kl_gcd]; rw [if_neg c_42])))) hl
            have hl := Eq.mp (congrArg (fun z9 => lv_has ls 11 [(0, .long a), (2, .long b), (4, .long ((kl_gcd (kl_abs a) (kl_abs b) (n + 1)).1)), (6, .long z9), (8, .int (nI (n + 1)))]) (show ((kl_gcd (kl_abs a) (kl_abs b) n).1) - ((kl_gcd (kl_abs a) (kl_abs b) n).1) / ((kl_gcd (kl_abs a) (kl_abs b) n).2) * ((kl_gcd (kl_abs a) (kl_abs b) n).2) = (kl_gcd (kl_abs a) (kl_abs b) (n + 1)).2 from (by first | rfl | (simp only [kl_gcd]; done) | (simp only [kl_gcd]; rw [if_neg c_42])))) hl
            exact ihn _ _ _ ⟨hP, hS, hl⟩
  · refine lv_lload_n hx hb dX0_greatestDivisor_6 rfl (lv_at hl 0 rfl) ?_
    refine lv_lneg hx hb dX0_greatestDivisor_7 ?_
    refine oo_topL (y := kl_abs a) (if_neg c_3).symm ?_
    refine lv_goto (tgt := 12) hx hb dX0_greatestDivisor_8 (by decide) ?_
    refine lv_lstore (lv' := [(4, .long (kl_abs a)), (0, .long a), (2, .long b)]) hx hb dX0_greatestDivisor_12 hl (by decide) rfl (fun ls hl => ?_)
    refine lv_lload_n hx hb dX0_greatestDivisor_14 rfl (lv_at hl 2 rfl) ?_
    refine lv_lconst (v := (0 : Int64)) hx hb dX0_greatestDivisor_15 (by decide) ?_
    refine W.lcmp hx hb dX0_greatestDivisor_16 ?_
    refine lv_if_ge (tgt := 25) hx hb dX0_greatestDivisor_17 (by decide) (fun c_17 => ?_) (fun c_17 => ?_)
    · refine lv_lload_n hx hb dX0_greatestDivisor_25 rfl (lv_at hl 2 rfl) ?_
      refine oo_topL (y := kl_abs b) (if_pos c_17).symm ?_
      refine lv_lstore (lv' := [(6, .long (kl_abs b)), (4, .long (kl_abs a)), (0, .long a), (2, .long b)]) hx hb dX0_greatestDivisor_26 hl (by decide) rfl (fun ls hl => ?_)
      refine lv_iconst (v := nI 0) hx hb dX0_greatestDivisor_28 (by decide) ?_
      refine lv_istore (lv' := [(8, .int (nI 0)), (6, .long (kl_abs b)), (4, .long (kl_abs a)), (0, .long a), (2, .long b)]) hx hb dX0_greatestDivisor_29 hl (by decide) rfl (fun ls hl => ?_)
      have hl : lv_has ls 11 [(0, .long a), (2, .long b), (4, .long (kl_abs a)), (6, .long (kl_abs b)), (8, .int (nI 0))] := lv_sub hl [3, 4, 2, 1, 0] rfl
      have hl := Eq.mp (congrArg (fun z9 => lv_has ls 11 [(0, .long a), (2, .long b), (4, .long z9), (6, .long (kl_abs b)), (8, .int (nI 0))]) (show kl_abs a = (kl_gcd (kl_abs a) (kl_abs b) 0).1 from (by first | rfl | (simp only [kl_gcd]; done) | (simp only [kl_gcd]; rw [if_neg c_3, if_pos c_17])))) hl
      have hl := Eq.mp (congrArg (fun z9 => lv_has ls 11 [(0, .long a), (2, .long b), (4, .long ((kl_gcd (kl_abs a) (kl_abs b) 0).1)), (6, .long z9), (8, .int (nI 0))]) (show kl_abs b = (kl_gcd (kl_abs a) (kl_abs b) 0).2 from (by first | rfl | (simp only [kl_gcd]; done) | (simp only [kl_gcd]; rw [if_neg c_3, if_pos c_17])))) hl
      refine oo_loop (N := 100) (fun n H locs ls => va_P D vwCl ([]) H ∧ va_S (oo_N) s.heap H locs ∧ lv_has ls 11 [(0, .long a), (2, .long b), (4, .long ((kl_gcd (kl_abs a) (kl_abs b) n).1)), (6, .long ((kl_gcd (kl_abs a) (kl_abs b) n).2)), (8, .int (nI n))]) ?_ ?_ 0 (Nat.zero_le _) ⟨hP, hS, hl⟩
      · intro H locs ls hI
        obtain ⟨hP, hS, hl⟩ := hI
        refine lv_iload hx hb dX0_greatestDivisor_31 (lv_at hl 4 rfl) ?_
        refine lv_bipush (v := nI 100) hx hb dX0_greatestDivisor_33 (by decide) ?_
        refine lv_icmp_ge (tgt := 66) hx hb dX0_greatestDivisor_35 (by decide) (fun c_35 => ?_) (fun c_35 => ?_)
        · refine lv_lload hx hb dX0_greatestDivisor_66 (lv_at hl 2 rfl) ?_
          exact ro_retl hx hb hr hlocks hS rfl dX0_greatestDivisor_68
        · exact absurd (nI_le (Nat.le_refl _) (by omega)) c_35
      · intro n hltn ihn H locs ls hI
        obtain ⟨hP, hS, hl⟩ := hI
        refine lv_iload hx hb dX0_greatestDivisor_31 (lv_at hl 4 rfl) ?_
        refine lv_bipush (v := nI 100) hx hb dX0_greatestDivisor_33 (by decide) ?_
        refine lv_icmp_ge (tgt := 66) hx hb dX0_greatestDivisor_35 (by decide) (fun c_35 => ?_) (fun c_35 => ?_)
        · exact absurd c_35 (nI_ge hltn (by omega))
        · refine lv_lload hx hb dX0_greatestDivisor_38 (lv_at hl 3 rfl) ?_
          refine lv_lconst (v := (0 : Int64)) hx hb dX0_greatestDivisor_40 (by decide) ?_
          refine W.lcmp hx hb dX0_greatestDivisor_41 ?_
          refine lv_if_eq (tgt := 66) hx hb dX0_greatestDivisor_42 (by decide) (fun c_42 => ?_) (fun c_42 => ?_)
          · refine lv_lload hx hb dX0_greatestDivisor_66 (lv_at hl 2 rfl) ?_
            exact ro_retl hx hb hr hlocks hS (congrArg Prod.fst (kl_gcd_stop c_42 100 (by omega)).symm) dX0_greatestDivisor_68
          · refine lv_lload hx hb dX0_greatestDivisor_45 (lv_at hl 2 rfl) ?_
            refine lv_lload hx hb dX0_greatestDivisor_47 (lv_at hl 3 rfl) ?_
            refine lv_lrem hx hb dX0_greatestDivisor_49 (oo_nz2 c_42) ?_
            refine lv_lstore (lv' := [(9, .long (((kl_gcd (kl_abs a) (kl_abs b) n).1) - ((kl_gcd (kl_abs a) (kl_abs b) n).1) / ((kl_gcd (kl_abs a) (kl_abs b) n).2) * ((kl_gcd (kl_abs a) (kl_abs b) n).2))), (0, .long a), (2, .long b), (4, .long ((kl_gcd (kl_abs a) (kl_abs b) n).1)), (6, .long ((kl_gcd (kl_abs a) (kl_abs b) n).2)), (8, .int (nI n))]) hx hb dX0_greatestDivisor_50 hl (by decide) rfl (fun ls hl => ?_)
            refine lv_lload hx hb dX0_greatestDivisor_52 (lv_at hl 4 rfl) ?_
            refine lv_lstore (lv' := [(4, .long ((kl_gcd (kl_abs a) (kl_abs b) n).2)), (9, .long (((kl_gcd (kl_abs a) (kl_abs b) n).1) - ((kl_gcd (kl_abs a) (kl_abs b) n).1) / ((kl_gcd (kl_abs a) (kl_abs b) n).2) * ((kl_gcd (kl_abs a) (kl_abs b) n).2))), (0, .long a), (2, .long b), (6, .long ((kl_gcd (kl_abs a) (kl_abs b) n).2)), (8, .int (nI n))]) hx hb dX0_greatestDivisor_54 hl (by decide) rfl (fun ls hl => ?_)
            refine lv_lload hx hb dX0_greatestDivisor_56 (lv_at hl 1 rfl) ?_
            refine lv_lstore (lv' := [(6, .long (((kl_gcd (kl_abs a) (kl_abs b) n).1) - ((kl_gcd (kl_abs a) (kl_abs b) n).1) / ((kl_gcd (kl_abs a) (kl_abs b) n).2) * ((kl_gcd (kl_abs a) (kl_abs b) n).2))), (4, .long ((kl_gcd (kl_abs a) (kl_abs b) n).2)), (9, .long (((kl_gcd (kl_abs a) (kl_abs b) n).1) - ((kl_gcd (kl_abs a) (kl_abs b) n).1) / ((kl_gcd (kl_abs a) (kl_abs b) n).2) * ((kl_gcd (kl_abs a) (kl_abs b) n).2))), (0, .long a), (2, .long b), (8, .int (nI n))]) hx hb dX0_greatestDivisor_58 hl (by decide) rfl (fun ls hl => ?_)
            refine lv_iinc (v := nI (n + 1)) (lv' := [(8, .int (nI (n + 1))), (6, .long (((kl_gcd (kl_abs a) (kl_abs b) n).1) - ((kl_gcd (kl_abs a) (kl_abs b) n).1) / ((kl_gcd (kl_abs a) (kl_abs b) n).2) * ((kl_gcd (kl_abs a) (kl_abs b) n).2))), (4, .long ((kl_gcd (kl_abs a) (kl_abs b) n).2)), (9, .long (((kl_gcd (kl_abs a) (kl_abs b) n).1) - ((kl_gcd (kl_abs a) (kl_abs b) n).1) / ((kl_gcd (kl_abs a) (kl_abs b) n).2) * ((kl_gcd (kl_abs a) (kl_abs b) n).2))), (0, .long a), (2, .long b)]) hx hb dX0_greatestDivisor_60 hl (k := 5) rfl (oo_inc n 1) (by decide) rfl (fun ls hl => ?_)
            refine lv_goto (tgt := 31) hx hb dX0_greatestDivisor_63 (by decide) ?_
            have hl : lv_has ls 11 [(0, .long a), (2, .long b), (4, .long ((kl_gcd (kl_abs a) (kl_abs b) n).2)), (6, .long (((kl_gcd (kl_abs a) (kl_abs b) n).1) - ((kl_gcd (kl_abs a) (kl_abs b) n).1) / ((kl_gcd (kl_abs a) (kl_abs b) n).2) * ((kl_gcd (kl_abs a) (kl_abs b) n).2))), (8, .int (nI (n + 1)))] := lv_sub hl [4, 5, 2, 1, 0] rfl
            have hl := Eq.mp (congrArg (fun z9 => lv_has ls 11 [(0, .long a), (2, .long b), (4, .long z9), (6, .long (((kl_gcd (kl_abs a) (kl_abs b) n).1) - ((kl_gcd (kl_abs a) (kl_abs b) n).1) / ((kl_gcd (kl_abs a) (kl_abs b) n).2) * ((kl_gcd (kl_abs a) (kl_abs b) n).2))), (8, .int (nI (n + 1)))]) (show (kl_gcd (kl_abs a) (kl_abs b) n).2 = (kl_gcd (kl_abs a) (kl_abs b) (n + 1)).1 from (by first | rfl | (simp only [kl_gcd]; done) | (simp only [kl_gcd]; rw [if_neg c_42])))) hl
            have hl := Eq.mp (congrArg (fun z9 => lv_has ls 11 [(0, .long a), (2, .long b), (4, .long ((kl_gcd (kl_abs a) (kl_abs b) (n + 1)).1)), (6, .long z9), (8, .int (nI (n + 1)))]) (show ((kl_gcd (kl_abs a) (kl_abs b) n).1) - ((kl_gcd (kl_abs a) (kl_abs b) n).1) / ((kl_gcd (kl_abs a) (kl_abs b) n).2) * ((kl_gcd (kl_abs a) (kl_abs b) n).2) = (kl_gcd (kl_abs a) (kl_abs b) (n + 1)).2 from (by first | rfl | (simp only [kl_gcd]; done) | (simp only [kl_gcd]; rw [if_neg c_42])))) hl
            exact ihn _ _ _ ⟨hP, hS, hl⟩
    · refine lv_lload_n hx hb dX0_greatestDivisor_20 rfl (lv_at hl 2 rfl) ?_
      refine lv_lneg hx hb dX0_greatestDivisor_21 ?_
      refine oo_topL (y := kl_abs b) (if_neg c_17).symm ?_
      refine lv_goto (tgt := 26) hx hb dX0_greatestDivisor_22 (by decide) ?_
      refine lv_lstore (lv' := [(6, .long (kl_abs b)), (4, .long (kl_abs a)), (0, .long a), (2, .long b)]) hx hb dX0_greatestDivisor_26 hl (by decide) rfl (fun ls hl => ?_)
      refine lv_iconst (v := nI 0) hx hb dX0_greatestDivisor_28 (by decide) ?_
      refine lv_istore (lv' := [(8, .int (nI 0)), (6, .long (kl_abs b)), (4, .long (kl_abs a)), (0, .long a), (2, .long b)]) hx hb dX0_greatestDivisor_29 hl (by decide) rfl (fun ls hl => ?_)
      have hl : lv_has ls 11 [(0, .long a), (2, .long b), (4, .long (kl_abs a)), (6, .long (kl_abs b)), (8, .int (nI 0))] := lv_sub hl [3, 4, 2, 1, 0] rfl
      have hl := Eq.mp (congrArg (fun z9 => lv_has ls 11 [(0, .long a), (2, .long b), (4, .long z9), (6, .long (kl_abs b)), (8, .int (nI 0))]) (show kl_abs a = (kl_gcd (kl_abs a) (kl_abs b) 0).1 from (by first | rfl | (simp only [kl_gcd]; done) | (simp only [kl_gcd]; rw [if_neg c_3, if_neg c_17])))) hl
      have hl := Eq.mp (congrArg (fun z9 => lv_has ls 11 [(0, .long a), (2, .long b), (4, .long ((kl_gcd (kl_abs a) (kl_abs b) 0).1)), (6, .long z9), (8, .int (nI 0))]) (show kl_abs b = (kl_gcd (kl_abs a) (kl_abs b) 0).2 from (by first | rfl | (simp only [kl_gcd]; done) | (simp only [kl_gcd]; rw [if_neg c_3, if_neg c_17])))) hl
      refine oo_loop (N := 100) (fun n H locs ls => va_P D vwCl ([]) H ∧ va_S (oo_N) s.heap H locs ∧ lv_has ls 11 [(0, .long a), (2, .long b), (4, .long ((kl_gcd (kl_abs a) (kl_abs b) n).1)), (6, .long ((kl_gcd (kl_abs a) (kl_abs b) n).2)), (8, .int (nI n))]) ?_ ?_ 0 (Nat.zero_le _) ⟨hP, hS, hl⟩
      · intro H locs ls hI
        obtain ⟨hP, hS, hl⟩ := hI
        refine lv_iload hx hb dX0_greatestDivisor_31 (lv_at hl 4 rfl) ?_
        refine lv_bipush (v := nI 100) hx hb dX0_greatestDivisor_33 (by decide) ?_
        refine lv_icmp_ge (tgt := 66) hx hb dX0_greatestDivisor_35 (by decide) (fun c_35 => ?_) (fun c_35 => ?_)
        · refine lv_lload hx hb dX0_greatestDivisor_66 (lv_at hl 2 rfl) ?_
          exact ro_retl hx hb hr hlocks hS rfl dX0_greatestDivisor_68
        · exact absurd (nI_le (Nat.le_refl _) (by omega)) c_35
      · intro n hltn ihn H locs ls hI
        obtain ⟨hP, hS, hl⟩ := hI
        refine lv_iload hx hb dX0_greatestDivisor_31 (lv_at hl 4 rfl) ?_
        refine lv_bipush (v := nI 100) hx hb dX0_greatestDivisor_33 (by decide) ?_
        refine lv_icmp_ge (tgt := 66) hx hb dX0_greatestDivisor_35 (by decide) (fun c_35 => ?_) (fun c_35 => ?_)
        · exact absurd c_35 (nI_ge hltn (by omega))
        · refine lv_lload hx hb dX0_greatestDivisor_38 (lv_at hl 3 rfl) ?_
          refine lv_lconst (v := (0 : Int64)) hx hb dX0_greatestDivisor_40 (by decide) ?_
          refine W.lcmp hx hb dX0_greatestDivisor_41 ?_
          refine lv_if_eq (tgt := 66) hx hb dX0_greatestDivisor_42 (by decide) (fun c_42 => ?_) (fun c_42 => ?_)
          · refine lv_lload hx hb dX0_greatestDivisor_66 (lv_at hl 2 rfl) ?_
            exact ro_retl hx hb hr hlocks hS (congrArg Prod.fst (kl_gcd_stop c_42 100 (by omega)).symm) dX0_greatestDivisor_68
          · refine lv_lload hx hb dX0_greatestDivisor_45 (lv_at hl 2 rfl) ?_
            refine lv_lload hx hb dX0_greatestDivisor_47 (lv_at hl 3 rfl) ?_
            refine lv_lrem hx hb dX0_greatestDivisor_49 (oo_nz2 c_42) ?_
            refine lv_lstore (lv' := [(9, .long (((kl_gcd (kl_abs a) (kl_abs b) n).1) - ((kl_gcd (kl_abs a) (kl_abs b) n).1) / ((kl_gcd (kl_abs a) (kl_abs b) n).2) * ((kl_gcd (kl_abs a) (kl_abs b) n).2))), (0, .long a), (2, .long b), (4, .long ((kl_gcd (kl_abs a) (kl_abs b) n).1)), (6, .long ((kl_gcd (kl_abs a) (kl_abs b) n).2)), (8, .int (nI n))]) hx hb dX0_greatestDivisor_50 hl (by decide) rfl (fun ls hl => ?_)
            refine lv_lload hx hb dX0_greatestDivisor_52 (lv_at hl 4 rfl) ?_
            refine lv_lstore (lv' := [(4, .long ((kl_gcd (kl_abs a) (kl_abs b) n).2)), (9, .long (((kl_gcd (kl_abs a) (kl_abs b) n).1) - ((kl_gcd (kl_abs a) (kl_abs b) n).1) / ((kl_gcd (kl_abs a) (kl_abs b) n).2) * ((kl_gcd (kl_abs a) (kl_abs b) n).2))), (0, .long a), (2, .long b), (6, .long ((kl_gcd (kl_abs a) (kl_abs b) n).2)), (8, .int (nI n))]) hx hb dX0_greatestDivisor_54 hl (by decide) rfl (fun ls hl => ?_)
            refine lv_lload hx hb dX0_greatestDivisor_56 (lv_at hl 1 rfl) ?_
            refine lv_lstore (lv' := [(6, .long (((kl_gcd (kl_abs a) (kl_abs b) n).1) - ((kl_gcd (kl_abs a) (kl_abs b) n).1) / ((kl_gcd (kl_abs a) (kl_abs b) n).2) * ((kl_gcd (kl_abs a) (kl_abs b) n).2))), (4, .long ((kl_gcd (kl_abs a) (kl_abs b) n).2)), (9, .long (((kl_gcd (kl_abs a) (kl_abs b) n).1) - ((kl_gcd (kl_abs a) (kl_abs b) n).1) / ((kl_gcd (kl_abs a) (kl_abs b) n).2) * ((kl_gcd (kl_abs a) (kl_abs b) n).2))), (0, .long a), (2, .long b), (8, .int (nI n))]) hx hb dX0_greatestDivisor_58 hl (by decide) rfl (fun ls hl => ?_)
            refine lv_iinc (v := nI (n + 1)) (lv' := [(8, .int (nI (n + 1))), (6, .long (((kl_gcd (kl_abs a) (kl_abs b) n).1) - ((kl_gcd (kl_abs a) (kl_abs b) n).1) / ((kl_gcd (kl_abs a) (kl_abs b) n).2) * ((kl_gcd (kl_abs a) (kl_abs b) n).2))), (4, .long ((kl_gcd (kl_abs a) (kl_abs b) n).2)), (9, .long (((kl_gcd (kl_abs a) (kl_abs b) n).1) - ((kl_gcd (kl_abs a) (kl_abs b) n).1) / ((kl_gcd (kl_abs a) (kl_abs b) n).2) * ((kl_gcd (kl_abs a) (kl_abs b) n).2))), (0, .long a), (2, .long b)]) hx hb dX0_greatestDivisor_60 hl (k := 5) rfl (oo_inc n 1) (by decide) rfl (fun ls hl => ?_)
            refine lv_goto (tgt := 31) hx hb dX0_greatestDivisor_63 (by decide) ?_
            have hl : lv_has ls 11 [(0, .long a), (2, .long b), (4, .long ((kl_gcd (kl_abs a) (kl_abs b) n).2)), (6, .long (((kl_gcd (kl_abs a) (kl_abs b) n).1) - ((kl_gcd (kl_abs a) (kl_abs b) n).1) / ((kl_gcd (kl_abs a) (kl_abs b) n).2) * ((kl_gcd (kl_abs a) (kl_abs b) n).2))), (8, .int (nI (n + 1)))] := lv_sub hl [4, 5, 2, 1, 0] rfl
            have hl := Eq.mp (congrArg (fun z9 => lv_has ls 11 [(0, .long a), (2, .long b), (4, .long z9), (6, .long (((kl_gcd (kl_abs a) (kl_abs b) n).1) - ((kl_gcd (kl_abs a) (kl_abs b) n).1) / ((kl_gcd (kl_abs a) (kl_abs b) n).2) * ((kl_gcd (kl_abs a) (kl_abs b) n).2))), (8, .int (nI (n + 1)))]) (show (kl_gcd (kl_abs a) (kl_abs b) n).2 = (kl_gcd (kl_abs a) (kl_abs b) (n + 1)).1 from (by first | rfl | (simp only [kl_gcd]; done) | (simp only [kl_gcd]; rw [if_neg c_42])))) hl
            have hl := Eq.mp (congrArg (fun z9 => lv_has ls 11 [(0, .long a), (2, .long b), (4, .long ((kl_gcd (kl_abs a) (kl_abs b) (n + 1)).1)), (6, .long z9), (8, .int (nI (n + 1)))]) (show ((kl_gcd (kl_abs a) (kl_abs b) n).1) - ((kl_gcd (kl_abs a) (kl_abs b) n).1) / ((kl_gcd (kl_abs a) (kl_abs b) n).2) * ((kl_gcd (kl_abs a) (kl_abs b) n).2) = (kl_gcd (kl_abs a) (kl_abs b) (n + 1)).2 from (by first | rfl | (simp only [kl_gcd]; done) | (simp only [kl_gcd]; rw [if_neg c_42])))) hl
            exact ihn _ _ _ ⟨hP, hS, hl⟩
theorem ok_X0_lowestPart : yX0_lowestPart.cls ≠ "java/lang/invoke/MethodHandle" ∧ yX0_lowestPart.cls ≠ "java/lang/invoke/VarHandle" ∧ (parseMethodDescriptor yX0_lowestPart.desc).map (fun d => d.parameters.length) = some 3 := by decide +kernel
def kvX0_lowestPart (a : Int64) (b : Int64) (pt : Int32) : Int64 := if (lg_cmp ((kl_gcd (kl_abs a) (kl_abs b) 100).1) (0 : Int64)) = 0 then (0 : Int64) else (if pt = 0 then (a / ((kl_gcd (kl_abs a) (kl_abs b) 100).1)) else (b / ((kl_gcd (kl_abs a) (kl_abs b) 100).1)))
set_option maxHeartbeats 4000000 in
set_option maxRecDepth 100000 in
theorem kX0_lowestPart (l : Launch) (D : va_G) (a : Int64) (b : Int64) (pt : Int32) : RoL l yX0_lowestPart wsX0_lowestPart ({ frames := 1, cells := 0, slots := 0, locals := 30 } : Room) [.long a, .long b, .int pt] D ([]) [] (kvX0_lowestPart a b pt) := by
  refine oo_head (C := RX0) (cc := cX0_lowestPart) (maxL := 7) (ret := (some .long)) (by decide) rfl rfl (Nat.le_of_ble_eq_true rfl) ?_
  intro p e s m below meth c hx hb hr hlocks hml hown hnm hts hpre ls hl
  have hl : lv_has ls 7 [(0, .long a), (2, .long b), (4, .int pt)] := hl
  obtain ⟨hP, hK⟩ := hpre
  have hS : va_S oo_N s.heap s.heap [] := va_S.rf
  refine lv_lload_n hx hb dX0_lowestPart_0 rfl (lv_at hl 0 rfl) ?_
  refine lv_lload_n hx hb dX0_lowestPart_1 rfl (lv_at hl 1 rfl) ?_
  refine ro_calll (va_runS (As := [.long a, .long b]) (rest := []) ⟨hx, hb, hml, hown, hts⟩ (kX0_greatestDivisor l D a b) (va_cwS 2 hts gX0_lowestPart_X0_greatestDivisor rfl rfl rfl ok_X0_greatestDivisor ⟨Nat.le_of_ble_eq_true rfl, Nat.le_of_ble_eq_true rfl⟩) ⟨oo_blind, oo_ps hP hK [] rfl [] rfl⟩ rfl rfl hl.1 rfl (lv_room (Nat.le_of_ble_eq_true rfl)) dX0_lowestPart_2 ⟨Nat.le_of_ble_eq_true rfl, Nat.le_of_ble_eq_true rfl⟩) hP hS (fun H locs hP hS => ?_)
  refine lv_lstore (lv' := [(5, .long ((kl_gcd (kl_abs a) (kl_abs b) 100).1)), (0, .long a), (2, .long b), (4, .int pt)]) hx hb dX0_lowestPart_5 hl (by decide) rfl (fun ls hl => ?_)
  refine lv_lload hx hb dX0_lowestPart_7 (lv_at hl 0 rfl) ?_
  refine lv_lconst (v := (0 : Int64)) hx hb dX0_lowestPart_9 (by decide) ?_
  refine W.lcmp hx hb dX0_lowestPart_10 ?_
  refine lv_if_ne (tgt := 16) hx hb dX0_lowestPart_11 (by decide) (fun c_11 => ?_) (fun c_11 => ?_)
  · refine lv_iload hx hb dX0_lowestPart_16 (lv_at hl 3 rfl) ?_
    refine lv_if_ne (tgt := 25) hx hb dX0_lowestPart_18 (by decide) (fun c_18 => ?_) (fun c_18 => ?_)
    · refine lv_lload_n hx hb dX0_lowestPart_25 rfl (lv_at hl 2 rfl) ?_
      refine lv_lload hx hb dX0_lowestPart_26 (lv_at hl 0 rfl) ?_
      refine lv_ldiv hx hb dX0_lowestPart_28 (oo_nz2 c_11) ?_
      exact ro_retl hx hb hr hlocks hS (by unfold kvX0_lowestPart; rw [if_neg c_11, if_neg c_18]) dX0_lowestPart_29
    · refine lv_lload_n hx hb dX0_lowestPart_21 rfl (lv_at hl 1 rfl) ?_
      refine lv_goto (tgt := 26) hx hb dX0_lowestPart_22 (by decide) ?_
      refine lv_lload hx hb dX0_lowestPart_26 (lv_at hl 0 rfl) ?_
      refine lv_ldiv hx hb dX0_lowestPart_28 (oo_nz2 c_11) ?_
      exact ro_retl hx hb hr hlocks hS (by unfold kvX0_lowestPart; rw [if_neg c_11, if_pos c_18]) dX0_lowestPart_29
  · refine lv_lconst (v := (0 : Int64)) hx hb dX0_lowestPart_14 (by decide) ?_
    exact ro_retl hx hb hr hlocks hS (by unfold kvX0_lowestPart; rw [if_pos c_11]) dX0_lowestPart_15
end
section
def kl_whI (up rest : Int64) (sz : Nat) (w : Nat → Int64) : Nat → Nat → Int64
  | 0 => w
  | n + 1 => kvX0_put_c0 64 (kvX0_put_c0 64 (kl_whI up rest sz w n) (nI n) (kvX0_at 64 (kl_whI up rest sz w n) (nI n) * rest)) (nI n + nI sz) (kvX0_at 64 (kl_whI up rest sz w n) (nI n) * up)
def kl_whO (u d : Nat → Int64) (fs : Int32) (w : Nat → Int64) : Nat → Nat → Int64
  | 0 => kvX0_put_c0 64 w (0 : Int32) (1 : Int64)
  | i + 1 => kl_whI (kvX0_at 12 u (fs + nI i)) (kvX0_at 12 d (fs + nI i) - kvX0_at 12 u (fs + nI i)) (2 ^ i) (kl_whO u d fs w i) (2 ^ i)
theorem ok_X0_weighHalf : yX0_weighHalf.cls = RX0 ∧ yX0_weighHalf.cls ≠ "java/lang/invoke/MethodHandle" ∧ yX0_weighHalf.cls ≠ "java/lang/invoke/VarHandle" ∧ (parseMethodDescriptor yX0_weighHalf.desc).map (fun d => d.parameters.length) = some 2 := by decide +kernel
set_option maxHeartbeats 4000000 in
set_option maxRecDepth 100000 in
theorem kX0_weighHalf (l : Launch) (D : va_G) (cJ : ClassId) (h a1 a2 a3 a4 a5 aw : Nat) (u d w : Nat → Int64) (fn qn : Nat) (sd : Int64) (fs : Int32) : MuV l yX0_weighHalf wsX0_weighHalf ({ frames := 1, cells := 0, slots := 0, locals := 23 } : Room) [.ref h, .ref aw, .int fs] D ([(h, .inr (0, [.ref a1, .ref a2, .ref a3, .ref a4, .ref a5, .int (nI fn), .int (nI qn), .long sd])), (a1, .inl (cJ, 12, .inr (.inl u))), (a2, .inl (cJ, 12, .inr (.inl d))), (aw, .inl (cJ, 64, .inr (.inl w)))]) [(cJ, .long)] ([(h, .inr (0, [.ref a1, .ref a2, .ref a3, .ref a4, .ref a5, .int (nI fn), .int (nI qn), .long sd])), (a1, .inl (cJ, 12, .inr (.inl u))), (a2, .inl (cJ, 12, .inr (.inl d))), (aw, .inl (cJ, 64, .inr (.inl (kl_whO u d fs w 6))))]) := by
  intro sz
  refine oo_head (C := RX0) (cc := cX0_weighHalf) (maxL := 12) (ret := none) (by decide) rfl rfl (Nat.le_of_ble_eq_true rfl) ?_
  intro p e s m below meth c hx hb hr hlocks hml hown hnm hts hpre ls hl
  have hl : lv_has ls 12 [(0, .ref h), (1, .ref aw), (2, .int fs)] := hl
  obtain ⟨rfl, hP, hK, hD0⟩ := hpre
  have hD := hD0.self (sz := s.heap.size)
  have hA := oo_A ([(h, .inr (0, [.ref a1, .ref a2, .ref a3, .ref a4, .ref a5, .int (nI fn), .int (nI qn), .long sd])), (a1, .inl (cJ, 12, .inr (.inl u))), (a2, .inl (cJ, 12, .inr (.inl d))), (aw, .inl (cJ, 64, .inr (.inl w)))]) s
  have hS : va_S (va_A ([(h, .inr (0, [.ref a1, .ref a2, .ref a3, .ref a4, .ref a5, .int (nI fn), .int (nI qn), .long sd])), (a1, .inl (cJ, 12, .inr (.inl u))), (a2, .inl (cJ, 12, .inr (.inl d))), (aw, .inl (cJ, 64, .inr (.inl w)))]) s.heap.size) s.heap s.heap [] := va_S.rf
  have hin : ∀ w ∈ wsX00, w ∈ wsX0_weighHalf := fun w h => List.mem_cons_of_mem _ (List.mem_append_right _ h)
  refine lv_aload_n hx hb dX0_weighHalf_0 rfl (lv_at hl 1 rfl) ?_
  refine lv_iconst (v := (0 : Int32)) hx hb dX0_weighHalf_1 (by decide) ?_
  refine lv_lconst (v := (1 : Int64)) hx hb dX0_weighHalf_2 (by decide) ?_
  refine mu_callv (va_runS (As := [.ref aw, .int (0 : Int32), .long (1 : Int64)]) (rest := []) ⟨hx, hb, hml, hown, hts⟩ (kX0_put l D cJ aw 64 w (0 : Int32) (1 : Int64) (by omega) _) (va_cwS 3 hts gX0_weighHalf_X0_put rfl rfl rfl ok_X0_put ⟨Nat.le_of_ble_eq_true rfl, Nat.le_of_ble_eq_true rfl⟩) ⟨oo_blindM, oo_psM hP hD hK [3] rfl rfl [0] rfl⟩ rfl rfl hl.1 rfl (lv_room (Nat.le_of_ble_eq_true rfl)) dX0_weighHalf_3 ⟨Nat.le_of_ble_eq_true rfl, Nat.le_of_ble_eq_true rfl⟩) hP hD hS hA [3] rfl (oo_fc rfl) (fun H locs hP hD hS => ?_)
  have hP : va_P D vwCl ([(h, .inr (0, [.ref a1, .ref a2, .ref a3, .ref a4, .ref a5, .int (nI fn), .int (nI qn), .long sd])), (a1, .inl (cJ, 12, .inr (.inl u))), (a2, .inl (cJ, 12, .inr (.inl d))), (aw, .inl (cJ, 64, .inr (.inl (kvX0_put_c0 64 w (0 : Int32) (1 : Int64)))))]) H := hP
  have hD : va_D _ ([(h, .inr (0, [.ref a1, .ref a2, .ref a3, .ref a4, .ref a5, .int (nI fn), .int (nI qn), .long sd])), (a1, .inl (cJ, 12, .inr (.inl u))), (a2, .inl (cJ, 12, .inr (.inl d))), (aw, .inl (cJ, 64, .inr (.inl (kvX0_put_c0 64 w (0 : Int32) (1 : Int64)))))]) := hD
  refine lv_iconst (v := nI 0) hx hb dX0_weighHalf_6 (by decide) ?_
  refine lv_istore_n (lv' := [(3, .int (nI 0)), (0, .ref h), (1, .ref aw), (2, .int fs)]) hx hb dX0_weighHalf_7 rfl hl (by decide) rfl (fun ls hl => ?_)
  have hl : lv_has ls 12 [(0, .ref h), (1, .ref aw), (2, .int fs), (3, .int (nI 0))] := lv_sub hl [1, 2, 3, 0] rfl
  have hP := Eq.mp (congrArg (fun z9 => va_P D vwCl ([(h, .inr (0, [.ref a1, .ref a2, .ref a3, .ref a4, .ref a5, .int (nI fn), .int (nI qn), .long sd])), (a1, .inl (cJ, 12, .inr (.inl u))), (a2, .inl (cJ, 12, .inr (.inl d))), (aw, .inl (cJ, 64, .inr (.inl z9)))]) H) (show kvX0_put_c0 64 w (0 : Int32) (1 : Int64) = kl_whO u d fs w 0 from (by simp only [kl_whO]))) hP
  have hP : va_P D vwCl ([(h, .inr (0, [.ref a1, .ref a2, .ref a3, .ref a4, .ref a5, .int (nI fn), .int (nI qn), .long sd])), (a1, .inl (cJ, 12, .inr (.inl u))), (a2, .inl (cJ, 12, .inr (.inl d))), (aw, .inl (cJ, 64, .inr (.inl (kl_whO u d fs w 0))))]) H := hP
  have hD : va_D _ ([(h, .inr (0, [.ref a1, .ref a2, .ref a3, .ref a4, .ref a5, .int (nI fn), .int (nI qn), .long sd])), (a1, .inl (cJ, 12, .inr (.inl u))), (a2, .inl (cJ, 12, .inr (.inl d))), (aw, .inl (cJ, 64, .inr (.inl (kl_whO u d fs w 0))))]) := oo_Dre hD (oo_fc (oo_fc (oo_fc (oo_fc rfl))))
  refine oo_loop (N := 6) (fun i H locs ls => va_P D vwCl ([(h, .inr (0, [.ref a1, .ref a2, .ref a3, .ref a4, .ref a5, .int (nI fn), .int (nI qn), .long sd])), (a1, .inl (cJ, 12, .inr (.inl u))), (a2, .inl (cJ, 12, .inr (.inl d))), (aw, .inl (cJ, 64, .inr (.inl (kl_whO u d fs w i))))]) H ∧ va_D (va_A ([(h, .inr (0, [.ref a1, .ref a2, .ref a3, .ref a4, .ref a5, .int (nI fn), .int (nI qn), .long sd])), (a1, .inl (cJ, 12, .inr (.inl u))), (a2, .inl (cJ, 12, .inr (.inl d))), (aw, .inl (cJ, 64, .inr (.inl w)))]) s.heap.size) ([(h, .inr (0, [.ref a1, .ref a2, .ref a3, .ref a4, .ref a5, .int (nI fn), .int (nI qn), .long sd])), (a1, .inl (cJ, 12, .inr (.inl u))), (a2, .inl (cJ, 12, .inr (.inl d))), (aw, .inl (cJ, 64, .inr (.inl (kl_whO u d fs w i))))]) ∧ va_S (va_A ([(h, .inr (0, [.ref a1, .ref a2, .ref a3, .ref a4, .ref a5, .int (nI fn), .int (nI qn), .long sd])), (a1, .inl (cJ, 12, .inr (.inl u))), (a2, .inl (cJ, 12, .inr (.inl d))), (aw, .inl (cJ, 64, .inr (.inl w)))]) s.heap.size) s.heap H locs ∧ lv_has ls 12 [(0, .ref h), (1, .ref aw), (2, .int fs), (3, .int (nI i))]) ?_ ?_ 0 (Nat.zero_le _) ⟨hP, hD, hS, hl⟩
  · intro H locs ls hI
    obtain ⟨hP, hD, hS, hl⟩ := hI
    refine lv_iload_n hx hb dX0_weighHalf_8 rfl (lv_at hl 3 rfl) ?_
    refine lv_bipush (v := nI 6) hx hb dX0_weighHalf_9 (by decide) ?_
    refine lv_icmp_ge (tgt := 101) hx hb dX0_weighHalf_11 (by decide) (fun c_11 => ?_) (fun c_11 => ?_)
    · exact mu_retv hx hb hr hlocks hP hD hS dX0_weighHalf_101
    · exact absurd (nI_le (Nat.le_refl _) (by omega)) c_11
  · intro i hlti ihi H locs ls hI
    obtain ⟨hP, hD, hS, hl⟩ := hI
    have h2i : 2 ^ i ≤ 2 ^ 5 := Nat.pow_le_pow_right (by omega) (by omega)
    refine lv_iload_n hx hb dX0_weighHalf_8 rfl (lv_at hl 3 rfl) ?_
    refine lv_bipush (v := nI 6) hx hb dX0_weighHalf_9 (by decide) ?_
    refine lv_icmp_ge (tgt := 101) hx hb dX0_weighHalf_11 (by decide) (fun c_11 => ?_) (fun c_11 => ?_)
    · exact absurd c_11 (nI_ge hlti (by omega))
    · refine lv_aload_n hx hb dX0_weighHalf_14 rfl (lv_at hl 0 rfl) ?_
      refine va_get (D := D) (ci := 0) (v := .ref a1) (C := RX0) (T := TX0) (N := 8) hx hb hts hin hown hK hP 0 rfl rfl 0 (by decide) (hts (.fieldLink RX0 9 "OddsSampling" "ups" "[J") (by decide +kernel)) (fun _ h9 => h9) rfl dX0_weighHalf_15 ?_
      refine lv_iload_n hx hb dX0_weighHalf_18 rfl (lv_at hl 2 rfl) ?_
      refine lv_iload_n hx hb dX0_weighHalf_19 rfl (lv_at hl 3 rfl) ?_
      refine lv_iadd hx hb dX0_weighHalf_20 ?_
      refine ro_calll (va_runS (As := [.ref a1, .int (fs + (nI i))]) (rest := []) ⟨hx, hb, hml, hown, hts⟩ (kX0_at l D cJ a1 12 u (fs + (nI i)) (by omega)) (va_cwS 2 hts gX0_weighHalf_X0_at rfl rfl rfl ok_X0_at ⟨Nat.le_of_ble_eq_true rfl, Nat.le_of_ble_eq_true rfl⟩) ⟨oo_blind, oo_ps hP hK [1] rfl [0] rfl⟩ rfl rfl hl.1 rfl (lv_room (Nat.le_of_ble_eq_true rfl)) dX0_weighHalf_21 ⟨Nat.le_of_ble_eq_true rfl, Nat.le_of_ble_eq_true rfl⟩) hP hS (fun H locs hP hS => ?_)
      refine lv_lstore (lv' := [(4, .long (kvX0_at 12 u (fs + (nI i)))), (0, .ref h), (1, .ref aw), (2, .int fs), (3, .int (nI i))]) hx hb dX0_weighHalf_24 hl (by decide) rfl (fun ls hl => ?_)
      refine lv_aload_n hx hb dX0_weighHalf_26 rfl (lv_at hl 1 rfl) ?_
      refine va_get (D := D) (ci := 0) (v := .ref a2) (C := RX0) (T := TX0) (N := 8) hx hb hts hin hown hK hP 0 rfl rfl 1 (by decide) (hts (.fieldLink RX0 13 "OddsSampling" "downs" "[J") (by decide +kernel)) (fun _ h9 => h9) rfl dX0_weighHalf_27 ?_
      refine lv_iload_n hx hb dX0_weighHalf_30 rfl (lv_at hl 3 rfl) ?_
      refine lv_iload_n hx hb dX0_weighHalf_31 rfl (lv_at hl 4 rfl) ?_
      refine lv_iadd hx hb dX0_weighHalf_32 ?_
      refine ro_calll (va_runS (As := [.ref a2, .int (fs + (nI i))]) (rest := []) ⟨hx, hb, hml, hown, hts⟩ (kX0_at l D cJ a2 12 d (fs + (nI i)) (by omega)) (va_cwS 2 hts gX0_weighHalf_X0_at rfl rfl rfl ok_X0_at ⟨Nat.le_of_ble_eq_true rfl, Nat.le_of_ble_eq_true rfl⟩) ⟨oo_blind, oo_ps hP hK [2] rfl [0] rfl⟩ rfl rfl hl.1 rfl (lv_room (Nat.le_of_ble_eq_true rfl)) dX0_weighHalf_33 ⟨Nat.le_of_ble_eq_true rfl, Nat.le_of_ble_eq_true rfl⟩) hP hS (fun H locs hP hS => ?_)
      refine lv_lload hx hb dX0_weighHalf_36 (lv_at hl 0 rfl) ?_
      refine lv_lsub hx hb dX0_weighHalf_38 ?_
      refine lv_lstore (lv' := [(6, .long ((kvX0_at 12 d (fs + (nI i))) - (kvX0_at 12 u (fs + (nI i))))), (4, .long (kvX0_at 12 u (fs + (nI i)))), (0, .ref h), (1, .ref aw), (2, .int fs), (3, .int (nI i))]) hx hb dX0_weighHalf_39 hl (by decide) rfl (fun ls hl => ?_)
      refine lv_iconst (v := (1 : Int32)) hx hb dX0_weighHalf_41 (by decide) ?_
      refine lv_iload_n hx hb dX0_weighHalf_42 rfl (lv_at hl 5 rfl) ?_
      refine lv_ishl hx hb dX0_weighHalf_43 ?_
      refine oo_topI (y := nI (2 ^ i)) (oo_shl1 i (by omega)) ?_
      refine lv_istore (lv' := [(8, .int (nI (2 ^ i))), (6, .long ((kvX0_at 12 d (fs + (nI i))) - (kvX0_at 12 u (fs + (nI i))))), (4, .long (kvX0_at 12 u (fs + (nI i)))), (0, .ref h), (1, .ref aw), (2, .int fs), (3, .int (nI i))]) hx hb dX0_weighHalf_44 hl (by decide) rfl (fun ls hl => ?_)
      refine lv_iconst (v := nI 0) hx hb dX0_weighHalf_46 (by decide) ?_
      refine lv_istore (lv' := [(9, .int (nI 0)), (8, .int (nI (2 ^ i))), (6, .long ((kvX0_at 12 d (fs + (nI i))) - (kvX0_at 12 u (fs + (nI i))))), (4, .long (kvX0_at 12 u (fs + (nI i)))), (0, .ref h), (1, .ref aw), (2, .int fs), (3, .int (nI i))]) hx hb dX0_weighHalf_47 hl (by decide) rfl (fun ls hl => ?_)
      have hl : lv_has ls 12 [(0, .ref h), (1, .ref aw), (2, .int fs), (3, .int (nI i)), (4, .long (kvX0_at 12 u (fs + (nI i)))), (6, .long ((kvX0_at 12 d (fs + (nI i))) - (kvX0_at 12 u (fs + (nI i))))), (8, .int (nI (2 ^ i))), (9, .int (nI 0))] := lv_sub hl [4, 5, 6, 7, 3, 2, 1, 0] rfl
      have hP := Eq.mp (congrArg (fun z9 => va_P D vwCl ([(h, .inr (0, [.ref a1, .ref a2, .ref a3, .ref a4, .ref a5, .int (nI fn), .int (nI qn), .long sd])), (a1, .inl (cJ, 12, .inr (.inl u))), (a2, .inl (cJ, 12, .inr (.inl d))), (aw, .inl (cJ, 64, .inr (.inl z9)))]) H) (show kl_whO u d fs w i = kl_whI (kvX0_at 12 u (fs + (nI i))) ((kvX0_at 12 d (fs + (nI i))) - (kvX0_at 12 u (fs + (nI i)))) (2 ^ i) (kl_whO u d fs w i) 0 from (by simp only [kl_whI]))) hP
      have hP : va_P D vwCl ([(h, .inr (0, [.ref a1, .ref a2, .ref a3, .ref a4, .ref a5, .int (nI fn), .int (nI qn), .long sd])), (a1, .inl (cJ, 12, .inr (.inl u))), (a2, .inl (cJ, 12, .inr (.inl d))), (aw, .inl (cJ, 64, .inr (.inl (kl_whI (kvX0_at 12 u (fs + (nI i))) ((kvX0_at 12 d (fs + (nI i))) - (kvX0_at 12 u (fs + (nI i)))) (2 ^ i) (kl_whO u d fs w i) 0))))]) H := hP
      have hD : va_D _ ([(h, .inr (0, [.ref a1, .ref a2, .ref a3, .ref a4, .ref a5, .int (nI fn), .int (nI qn), .long sd])), (a1, .inl (cJ, 12, .inr (.inl u))), (a2, .inl (cJ, 12, .inr (.inl d))), (aw, .inl (cJ, 64, .inr (.inl (kl_whI (kvX0_at 12 u (fs + (nI i))) ((kvX0_at 12 d (fs + (nI i))) - (kvX0_at 12 u (fs + (nI i)))) (2 ^ i) (kl_whO u d fs w i) 0))))]) := oo_Dre hD (oo_fc (oo_fc (oo_fc (oo_fc rfl))))
      refine oo_loop (N := (2 ^ i)) (fun n H locs ls => va_P D vwCl ([(h, .inr (0, [.ref a1, .ref a2, .ref a3, .ref a4, .ref a5, .int (nI fn), .int (nI qn), .long sd])), (a1, .inl (cJ, 12, .inr (.inl u))), (a2, .inl (cJ, 12, .inr (.inl d))), (aw, .inl (cJ, 64, .inr (.inl (kl_whI (kvX0_at 12 u (fs + (nI i))) ((kvX0_at 12 d (fs + (nI i))) - (kvX0_at 12 u (fs + (nI i)))) (2 ^ i) (kl_whO u d fs w i) n))))]) H ∧ va_D (va_A ([(h, .inr (0, [.ref a1, .ref a2, .ref a3, .ref a4, .ref a5, .int (nI fn), .int (nI qn), .long sd])), (a1, .inl (cJ, 12, .inr (.inl u))), (a2, .inl (cJ, 12, .inr (.inl d))), (aw, .inl (cJ, 64, .inr (.inl w)))]) s.heap.size) ([(h, .inr (0, [.ref a1, .ref a2, .ref a3, .ref a4, .ref a5, .int (nI fn), .int (nI qn), .long sd])), (a1, .inl (cJ, 12, .inr (.inl u))), (a2, .inl (cJ, 12, .inr (.inl d))), (aw, .inl (cJ, 64, .inr (.inl (kl_whI (kvX0_at 12 u (fs + (nI i))) ((kvX0_at 12 d (fs + (nI i))) - (kvX0_at 12 u (fs + (nI i)))) (2 ^ i) (kl_whO u d fs w i) n))))]) ∧ va_S (va_A ([(h, .inr (0, [.ref a1, .ref a2, .ref a3, .ref a4, .ref a5, .int (nI fn), .int (nI qn), .long sd])), (a1, .inl (cJ, 12, .inr (.inl u))), (a2, .inl (cJ, 12, .inr (.inl d))), (aw, .inl (cJ, 64, .inr (.inl w)))]) s.heap.size) s.heap H locs ∧ lv_has ls 12 [(0, .ref h), (1, .ref aw), (2, .int fs), (3, .int (nI i)), (4, .long (kvX0_at 12 u (fs + (nI i)))), (6, .long ((kvX0_at 12 d (fs + (nI i))) - (kvX0_at 12 u (fs + (nI i))))), (8, .int (nI (2 ^ i))), (9, .int (nI n))]) ?_ ?_ 0 (Nat.zero_le _) ⟨hP, hD, hS, hl⟩
      · intro H locs ls hI
        obtain ⟨hP, hD, hS, hl⟩ := hI
        refine lv_iload hx hb dX0_weighHalf_49 (lv_at hl 7 rfl) ?_
        refine lv_iload hx hb dX0_weighHalf_51 (lv_at hl 6 rfl) ?_
        refine lv_icmp_ge (tgt := 95) hx hb dX0_weighHalf_53 (by decide) (fun c_53 => ?_) (fun c_53 => ?_)
        · refine lv_iinc (v := nI (i + 1)) (lv' := [(3, .int (nI (i + 1))), (0, .ref h), (1, .ref aw), (2, .int fs), (4, .long (kvX0_at 12 u (fs + (nI i)))), (6, .long ((kvX0_at 12 d (fs + (nI i))) - (kvX0_at 12 u (fs + (nI i))))), (8, .int (nI (2 ^ i))), (9, .int (nI (2 ^ i)))]) hx hb dX0_weighHalf_95 hl (k := 3) rfl (oo_inc i 1) (by decide) rfl (fun ls hl => ?_)
          refine lv_goto (tgt := 8) hx hb dX0_weighHalf_98 (by decide) ?_
          have hl : lv_has ls 12 [(0, .ref h), (1, .ref aw), (2, .int fs), (3, .int (nI (i + 1)))] := lv_sub hl [1, 2, 3, 0] rfl
          have hP := Eq.mp (congrArg (fun z9 => va_P D vwCl ([(h, .inr (0, [.ref a1, .ref a2, .ref a3, .ref a4, .ref a5, .int (nI fn), .int (nI qn), .long sd])), (a1, .inl (cJ, 12, .inr (.inl u))), (a2, .inl (cJ, 12, .inr (.inl d))), (aw, .inl (cJ, 64, .inr (.inl z9)))]) H) (show kl_whI (kvX0_at 12 u (fs + (nI i))) ((kvX0_at 12 d (fs + (nI i))) - (kvX0_at 12 u (fs + (nI i)))) (2 ^ i) (kl_whO u d fs w i) (2 ^ i) = kl_whO u d fs w (i + 1) from (by simp only [kl_whO]))) hP
          have hP : va_P D vwCl ([(h, .inr (0, [.ref a1, .ref a2, .ref a3, .ref a4, .ref a5, .int (nI fn), .int (nI qn), .long sd])), (a1, .inl (cJ, 12, .inr (.inl u))), (a2, .inl (cJ, 12, .inr (.inl d))), (aw, .inl (cJ, 64, .inr (.inl (kl_whO u d fs w (i + 1)))))]) H := hP
          have hD : va_D _ ([(h, .inr (0, [.ref a1, .ref a2, .ref a3, .ref a4, .ref a5, .int (nI fn), .int (nI qn), .long sd])), (a1, .inl (cJ, 12, .inr (.inl u))), (a2, .inl (cJ, 12, .inr (.inl d))), (aw, .inl (cJ, 64, .inr (.inl (kl_whO u d fs w (i + 1)))))]) := oo_Dre hD (oo_fc (oo_fc (oo_fc (oo_fc rfl))))
          exact ihi _ _ _ ⟨hP, hD, hS, hl⟩
        · exact absurd (nI_le (Nat.le_refl _) (by omega)) c_53
      · intro n hltn ihn H locs ls hI
        obtain ⟨hP, hD, hS, hl⟩ := hI
        refine lv_iload hx hb dX0_weighHalf_49 (lv_at hl 7 rfl) ?_
        refine lv_iload hx hb dX0_weighHalf_51 (lv_at hl 6 rfl) ?_
        refine lv_icmp_ge (tgt := 95) hx hb dX0_weighHalf_53 (by decide) (fun c_53 => ?_) (fun c_53 => ?_)
        · exact absurd c_53 (nI_ge hltn (by omega))
        · refine lv_aload_n hx hb dX0_weighHalf_56 rfl (lv_at hl 1 rfl) ?_
          refine lv_iload hx hb dX0_weighHalf_57 (lv_at hl 7 rfl) ?_
          refine ro_calll (va_runS (As := [.ref aw, .int (nI n)]) (rest := []) ⟨hx, hb, hml, hown, hts⟩ (kX0_at l D cJ aw 64 (kl_whI (kvX0_at 12 u (fs + (nI i))) ((kvX0_at 12 d (fs + (nI i))) - (kvX0_at 12 u (fs + (nI i)))) (2 ^ i) (kl_whO u d fs w i) n) (nI n) (by omega)) (va_cwS 2 hts gX0_weighHalf_X0_at rfl rfl rfl ok_X0_at ⟨Nat.le_of_ble_eq_true rfl, Nat.le_of_ble_eq_true rfl⟩) ⟨oo_blind, oo_ps hP hK [3] rfl [0] rfl⟩ rfl rfl hl.1 rfl (lv_room (Nat.le_of_ble_eq_true rfl)) dX0_weighHalf_59 ⟨Nat.le_of_ble_eq_true rfl, Nat.le_of_ble_eq_true rfl⟩) hP hS (fun H locs hP hS => ?_)
          refine lv_lstore (lv' := [(10, .long (kvX0_at 64 (kl_whI (kvX0_at 12 u (fs + (nI i))) ((kvX0_at 12 d (fs + (nI i))) - (kvX0_at 12 u (fs + (nI i)))) (2 ^ i) (kl_whO u d fs w i) n) (nI n))), (0, .ref h), (1, .ref aw), (2, .int fs), (3, .int (nI i)), (4, .long (kvX0_at 12 u (fs + (nI i)))), (6, .long ((kvX0_at 12 d (fs + (nI i))) - (kvX0_at 12 u (fs + (nI i))))), (8, .int (nI (2 ^ i))), (9, .int (nI n))]) hx hb dX0_weighHalf_62 hl (by decide) rfl (fun ls hl => ?_)
          refine lv_aload_n hx hb dX0_weighHalf_64 rfl (lv_at hl 2 rfl) ?_
          refine lv_iload hx hb dX0_weighHalf_65 (lv_at hl 8 rfl) ?_
          refine lv_lload hx hb dX0_weighHalf_67 (lv_at hl 0 rfl) ?_
          refine lv_lload hx hb dX0_weighHalf_69 (lv_at hl 6 rfl) ?_
          refine lv_lmul hx hb dX0_weighHalf_71 ?_
          refine mu_callv (va_runS (As := [.ref aw, .int (nI n), .long ((kvX0_at 64 (kl_whI (kvX0_at 12 u (fs + (nI i))) ((kvX0_at 12 d (fs + (nI i))) - (kvX0_at 12 u (fs + (nI i)))) (2 ^ i) (kl_whO u d fs w i) n) (nI n)) * ((kvX0_at 12 d (fs + (nI i))) - (kvX0_at 12 u (fs + (nI i)))))]) (rest := []) ⟨hx, hb, hml, hown, hts⟩ (kX0_put l D cJ aw 64 (kl_whI (kvX0_at 12 u (fs + (nI i))) ((kvX0_at 12 d (fs + (nI i))) - (kvX0_at 12 u (fs + (nI i)))) (2 ^ i) (kl_whO u d fs w i) n) (nI n) ((kvX0_at 64 (kl_whI (kvX0_at 12 u (fs + (nI i))) ((kvX0_at 12 d (fs + (nI i))) - (kvX0_at 12 u (fs + (nI i)))) (2 ^ i) (kl_whO u d fs w i) n) (nI n)) * ((kvX0_at 12 d (fs + (nI i))) - (kvX0_at 12 u (fs + (nI i))))) (by omega) _) (va_cwS 3 hts gX0_weighHalf_X0_put rfl rfl rfl ok_X0_put ⟨Nat.le_of_ble_eq_true rfl, Nat.le_of_ble_eq_true rfl⟩) ⟨oo_blindM, oo_psM hP hD hK [3] rfl rfl [0] rfl⟩ rfl rfl hl.1 rfl (lv_room (Nat.le_of_ble_eq_true rfl)) dX0_weighHalf_72 ⟨Nat.le_of_ble_eq_true rfl, Nat.le_of_ble_eq_true rfl⟩) hP hD hS hA [3] rfl (oo_fc rfl) (fun H locs hP hD hS => ?_)
          have hP : va_P D vwCl ([(h, .inr (0, [.ref a1, .ref a2, .ref a3, .ref a4, .ref a5, .int (nI fn), .int (nI qn), .long sd])), (a1, .inl (cJ, 12, .inr (.inl u))), (a2, .inl (cJ, 12, .inr (.inl d))), (aw, .inl (cJ, 64, .inr (.inl (kvX0_put_c0 64 (kl_whI (kvX0_at 12 u (fs + (nI i))) ((kvX0_at 12 d (fs + (nI i))) - (kvX0_at 12 u (fs + (nI i)))) (2 ^ i) (kl_whO u d fs w i) n) (nI n) ((kvX0_at 64 (kl_whI (kvX0_at 12 u (fs + (nI i))) ((kvX0_at 12 d (fs + (nI i))) - (kvX0_at 12 u (fs + (nI i)))) (2 ^ i) (kl_whO u d fs w i) n) (nI n)) * ((kvX0_at 12 d (fs + (nI i))) - (kvX0_at 12 u (fs + (nI i)))))))))]) H := hP
          have hD : va_D _ ([(h, .inr (0, [.ref a1, .ref a2, .ref a3, .ref a4, .ref a5, .int (nI fn), .int (nI qn), .long sd])), (a1, .inl (cJ, 12, .inr (.inl u))), (a2, .inl (cJ, 12, .inr (.inl d))), (aw, .inl (cJ, 64, .inr (.inl (kvX0_put_c0 64 (kl_whI (kvX0_at 12 u (fs + (nI i))) ((kvX0_at 12 d (fs + (nI i))) - (kvX0_at 12 u (fs + (nI i)))) (2 ^ i) (kl_whO u d fs w i) n) (nI n) ((kvX0_at 64 (kl_whI (kvX0_at 12 u (fs + (nI i))) ((kvX0_at 12 d (fs + (nI i))) - (kvX0_at 12 u (fs + (nI i)))) (2 ^ i) (kl_whO u d fs w i) n) (nI n)) * ((kvX0_at 12 d (fs + (nI i))) - (kvX0_at 12 u (fs + (nI i)))))))))]) := hD
          refine lv_aload_n hx hb dX0_weighHalf_75 rfl (lv_at hl 2 rfl) ?_
          refine lv_iload hx hb dX0_weighHalf_76 (lv_at hl 8 rfl) ?_
          refine lv_iload hx hb dX0_weighHalf_78 (lv_at hl 7 rfl) ?_
          refine lv_iadd hx hb dX0_weighHalf_80 ?_
          refine lv_lload hx hb dX0_weighHalf_81 (lv_at hl 0 rfl) ?_
          refine lv_lload hx hb dX0_weighHalf_83 (lv_at hl 5 rfl) ?_
          refine lv_lmul hx hb dX0_weighHalf_85 ?_
          refine mu_callv (va_runS (As := [.ref aw, .int ((nI n) + (nI (2 ^ i))), .long ((kvX0_at 64 (kl_whI (kvX0_at 12 u (fs + (nI i))) ((kvX0_at 12 d (fs + (nI i))) - (kvX0_at 12 u (fs + (nI i)))) (2 ^ i) (kl_whO u d fs w i) n) (nI n)) * (kvX0_at 12 u (fs + (nI i))))]) (rest := []) ⟨hx, hb, hml, hown, hts⟩ (kX0_put l D cJ aw 64 (kvX0_put_c0 64 (kl_whI (kvX0_at 12 u (fs + (nI i))) ((kvX0_at 12 d (fs + (nI i))) - (kvX0_at 12 u (fs + (nI i)))) (2 ^ i) (kl_whO u d fs w i) n) (nI n) ((kvX0_at 64 (kl_whI (kvX0_at 12 u (fs + (nI i))) ((kvX0_at 12 d (fs + (nI i))) - (kvX0_at 12 u (fs + (nI i)))) (2 ^ i) (kl_whO u d fs w i) n) (nI n)) * ((kvX0_at 12 d (fs + (nI i))) - (kvX0_at 12 u (fs + (nI i)))))) ((nI n) + (nI (2 ^ i))) ((kvX0_at 64 (kl_whI (kvX0_at 12 u (fs + (nI i))) ((kvX0_at 12 d (fs + (nI i))) - (kvX0_at 12 u (fs + (nI i)))) (2 ^ i) (kl_whO u d fs w i) n) (nI n)) * (kvX0_at 12 u (fs + (nI i)))) (by omega) _) (va_cwS 3 hts gX0_weighHalf_X0_put rfl rfl rfl ok_X0_put ⟨Nat.le_of_ble_eq_true rfl, Nat.le_of_ble_eq_true rfl⟩) ⟨oo_blindM, oo_psM hP hD hK [3] rfl rfl [0] rfl⟩ rfl rfl hl.1 rfl (lv_room (Nat.le_of_ble_eq_true rfl)) dX0_weighHalf_86 ⟨Nat.le_of_ble_eq_true rfl, Nat.le_of_ble_eq_true rfl⟩) hP hD hS hA [3] rfl (oo_fc rfl) (fun H locs hP hD hS => ?_)
          have hP : va_P D vwCl ([(h, .inr (0, [.ref a1, .ref a2, .ref a3, .ref a4, .ref a5, .int (nI fn), .int (nI qn), .long sd])), (a1, .inl (cJ, 12, .inr (.inl u))), (a2, .inl (cJ, 12, .inr (.inl d))), (aw, .inl (cJ, 64, .inr (.inl (kvX0_put_c0 64 (kvX0_put_c0 64 (kl_whI (kvX0_at 12 u (fs + (nI i))) ((kvX0_at 12 d (fs + (nI i))) - (kvX0_at 12 u (fs + (nI i)))) (2 ^ i) (kl_whO u d fs w i) n) (nI n) ((kvX0_at 64 (kl_whI (kvX0_at 12 u (fs + (nI i))) ((kvX0_at 12 d (fs + (nI i))) - (kvX0_at 12 u (fs + (nI i)))) (2 ^ i) (kl_whO u d fs w i) n) (nI n)) * ((kvX0_at 12 d (fs + (nI i))) - (kvX0_at 12 u (fs + (nI i)))))) ((nI n) + (nI (2 ^ i))) ((kvX0_at 64 (kl_whI (kvX0_at 12 u (fs + (nI i))) ((kvX0_at 12 d (fs + (nI i))) - (kvX0_at 12 u (fs + (nI i)))) (2 ^ i) (kl_whO u d fs w i) n) (nI n)) * (kvX0_at 12 u (fs + (nI i))))))))]) H := hP
          have hD : va_D _ ([(h, .inr (0, [.ref a1, .ref a2, .ref a3, .ref a4, .ref a5, .int (nI fn), .int (nI qn), .long sd])), (a1, .inl (cJ, 12, .inr (.inl u))), (a2, .inl (cJ, 12, .inr (.inl d))), (aw, .inl (cJ, 64, .inr (.inl (kvX0_put_c0 64 (kvX0_put_c0 64 (kl_whI (kvX0_at 12 u (fs + (nI i))) ((kvX0_at 12 d (fs + (nI i))) - (kvX0_at 12 u (fs + (nI i)))) (2 ^ i) (kl_whO u d fs w i) n) (nI n) ((kvX0_at 64 (kl_whI (kvX0_at 12 u (fs + (nI i))) ((kvX0_at 12 d (fs + (nI i))) - (kvX0_at 12 u (fs + (nI i)))) (2 ^ i) (kl_whO u d fs w i) n) (nI n)) * ((kvX0_at 12 d (fs + (nI i))) - (kvX0_at 12 u (fs + (nI i)))))) ((nI n) + (nI (2 ^ i))) ((kvX0_at 64 (kl_whI (kvX0_at 12 u (fs + (nI i))) ((kvX0_at 12 d (fs + (nI i))) - (kvX0_at 12 u (fs + (nI i)))) (2 ^ i) (kl_whO u d fs w i) n) (nI n)) * (kvX0_at 12 u (fs + (nI i))))))))]) := hD
          refine lv_iinc (v := nI (n + 1)) (lv' := [(9, .int (nI (n + 1))), (10, .long (kvX0_at 64 (kl_whI (kvX0_at 12 u (fs + (nI i))) ((kvX0_at 12 d (fs + (nI i))) - (kvX0_at 12 u (fs + (nI i)))) (2 ^ i) (kl_whO u d fs w i) n) (nI n))), (0, .ref h), (1, .ref aw), (2, .int fs), (3, .int (nI i)), (4, .long (kvX0_at 12 u (fs + (nI i)))), (6, .long ((kvX0_at 12 d (fs + (nI i))) - (kvX0_at 12 u (fs + (nI i))))), (8, .int (nI (2 ^ i)))]) hx hb dX0_weighHalf_89 hl (k := 8) rfl (oo_inc n 1) (by decide) rfl (fun ls hl => ?_)
          refine lv_goto (tgt := 49) hx hb dX0_weighHalf_92 (by decide) ?_
          have hl : lv_has ls 12 [(0, .ref h), (1, .ref aw), (2, .int fs), (3, .int (nI i)), (4, .long (kvX0_at 12 u (fs + (nI i)))), (6, .long ((kvX0_at 12 d (fs + (nI i))) - (kvX0_at 12 u (fs + (nI i))))), (8, .int (nI (2 ^ i))), (9, .int (nI (n + 1)))] := lv_sub hl [2, 3, 4, 5, 6, 7, 8, 0] rfl
          have hP := Eq.mp (congrArg (fun z9 => va_P D vwCl ([(h, .inr (0, [.ref a1, .ref a2, .ref a3, .ref a4, .ref a5, .int (nI fn), .int (nI qn), .long sd])), (a1, .inl (cJ, 12, .inr (.inl u))), (a2, .inl (cJ, 12, .inr (.inl d))), (aw, .inl (cJ, 64, .inr (.inl z9)))]) H) (show kvX0_put_c0 64 (kvX0_put_c0 64 (kl_whI (kvX0_at 12 u (fs + (nI i))) ((kvX0_at 12 d (fs + (nI i))) - (kvX0_at 12 u (fs + (nI i)))) (2 ^ i) (kl_whO u d fs w i) n) (nI n) ((kvX0_at 64 (kl_whI (kvX0_at 12 u (fs + (nI i))) ((kvX0_at 12 d (fs + (nI i))) - (kvX0_at 12 u (fs + (nI i)))) (2 ^ i) (kl_whO u d fs w i) n) (nI n)) * ((kvX0_at 12 d (fs + (nI i))) - (kvX0_at 12 u (fs + (nI i)))))) ((nI n) + (nI (2 ^ i))) ((kvX0_at 64 (kl_whI (kvX0_at 12 u (fs + (nI i))) ((kvX0_at 12 d (fs + (nI i))) - (kvX0_at 12 u (fs + (nI i)))) (2 ^ i) (kl_whO u d fs w i) n) (nI n)) * (kvX0_at 12 u (fs + (nI i)))) = kl_whI (kvX0_at 12 u (fs + (nI i))) ((kvX0_at 12 d (fs + (nI i))) - (kvX0_at 12 u (fs + (nI i)))) (2 ^ i) (kl_whO u d fs w i) (n + 1) from (by simp only [kl_whI]))) hP
          have hP : va_P D vwCl ([(h, .inr (0, [.ref a1, .ref a2, .ref a3, .ref a4, .ref a5, .int (nI fn), .int (nI qn), .long sd])), (a1, .inl (cJ, 12, .inr (.inl u))), (a2, .inl (cJ, 12, .inr (.inl d))), (aw, .inl (cJ, 64, .inr (.inl (kl_whI (kvX0_at 12 u (fs + (nI i))) ((kvX0_at 12 d (fs + (nI i))) - (kvX0_at 12 u (fs + (nI i)))) (2 ^ i) (kl_whO u d fs w i) (n + 1)))))]) H := hP
          have hD : va_D _ ([(h, .inr (0, [.ref a1, .ref a2, .ref a3, .ref a4, .ref a5, .int (nI fn), .int (nI qn), .long sd])), (a1, .inl (cJ, 12, .inr (.inl u))), (a2, .inl (cJ, 12, .inr (.inl d))), (aw, .inl (cJ, 64, .inr (.inl (kl_whI (kvX0_at 12 u (fs + (nI i))) ((kvX0_at 12 d (fs + (nI i))) - (kvX0_at 12 u (fs + (nI i)))) (2 ^ i) (kl_whO u d fs w i) (n + 1)))))]) := oo_Dre hD (oo_fc (oo_fc (oo_fc (oo_fc rfl))))
          exact ihn _ _ _ ⟨hP, hD, hS, hl⟩
theorem ok_X0_weigh : yX0_weigh.cls = RX0 ∧ yX0_weigh.cls ≠ "java/lang/invoke/MethodHandle" ∧ yX0_weigh.cls ≠ "java/lang/invoke/VarHandle" ∧ (parseMethodDescriptor yX0_weigh.desc).map (fun d => d.parameters.length) = some 0 := by decide +kernel
set_option maxHeartbeats 4000000 in
set_option maxRecDepth 100000 in
theorem kX0_weigh (l : Launch) (D : va_G) (cJ : ClassId) (h a1 a2 a3 a4 a5 : Nat) (u d lw uw an : Nat → Int64) (fn qn : Nat) (sd : Int64)  : MuV l yX0_weigh wsX0_weigh ({ frames := 2, cells := 0, slots := 0, locals := 54 } : Room) [.ref h] D (xW cJ h a1 a2 a3 a4 a5 u d lw uw an (nI fn) (nI qn) sd) [(cJ, .long)] (xW cJ h a1 a2 a3 a4 a5 u d (kl_whO u d (0 : Int32) lw 6) (kl_whO u d (nI 6) uw 6) an (nI fn) (nI qn) sd) := by
  intro sz
  refine oo_head (C := RX0) (cc := cX0_weigh) (maxL := 1) (ret := none) (by decide) rfl rfl (Nat.le_of_ble_eq_true rfl) ?_
  intro p e s m below meth c hx hb hr hlocks hml hown hnm hts hpre ls hl
  have hl : lv_has ls 1 [(0, .ref h)] := hl
  obtain ⟨rfl, hP, hK, hD0⟩ := hpre
  have hD := hD0.self (sz := s.heap.size)
  have hA := oo_A (xW cJ h a1 a2 a3 a4 a5 u d lw uw an (nI fn) (nI qn) sd) s
  have hS : va_S (va_A (xW cJ h a1 a2 a3 a4 a5 u d lw uw an (nI fn) (nI qn) sd) s.heap.size) s.heap s.heap [] := va_S.rf
  have hin : ∀ w ∈ wsX00, w ∈ wsX0_weigh := fun w h => List.mem_cons_of_mem _ (List.mem_append_right _ h)
  refine lv_aload_n hx hb dX0_weigh_0 rfl (lv_at hl 0 rfl) ?_
  refine lv_aload_n hx hb dX0_weigh_1 rfl (lv_at hl 0 rfl) ?_
  refine va_get (D := D) (ci := 0) (v := .ref a3) (C := RX0) (T := TX0) (N := 8) hx hb hts hin hown hK hP 0 rfl rfl 2 (by decide) (hts (.fieldLink RX0 16 "OddsSampling" "lowerWeights" "[J") (by decide +kernel)) (fun _ h9 => h9) rfl dX0_weigh_2 ?_
  refine lv_iconst (v := (0 : Int32)) hx hb dX0_weigh_5 (by decide) ?_
  refine mu_callv (va_runV (As := [.ref a3, .int (0 : Int32)]) (rest := []) ⟨hx, hb, hml, hown, hts⟩ (kX0_weighHalf l D cJ h a1 a2 a3 a4 a5 a3 u d lw fn qn sd (0 : Int32) _) (cwV 2 hts gX0_weigh_X0_weighHalf rfl rfl rfl ok_X0_weighHalf ⟨Nat.le_of_ble_eq_true rfl, Nat.le_of_ble_eq_true rfl⟩) ⟨oo_blindM, va_recv hK hP (ci := 0) (q0 := 0) rfl rfl, oo_psM hP hD hK [0, 1, 2, 3] rfl rfl [0] rfl⟩ rfl rfl hl.1 rfl (lv_room (Nat.le_of_ble_eq_true rfl)) dX0_weigh_6 ⟨Nat.le_of_ble_eq_true rfl, Nat.le_of_ble_eq_true rfl⟩) hP hD hS hA [0, 1, 2, 3] rfl (oo_fc (oo_fc (oo_fc (oo_fc rfl)))) (fun H locs hP hD hS => ?_)
  have hP : va_P D vwCl (xW cJ h a1 a2 a3 a4 a5 u d (kl_whO u d (0 : Int32) lw 6) uw an (nI fn) (nI qn) sd) H := hP
  have hD : va_D _ (xW cJ h a1 a2 a3 a4 a5 u d (kl_whO u d (0 : Int32) lw 6) uw an (nI fn) (nI qn) sd) := hD
  refine lv_aload_n hx hb dX0_weigh_9 rfl (lv_at hl 0 rfl) ?_
  refine lv_aload_n hx hb dX0_weigh_10 rfl (lv_at hl 0 rfl) ?_
  refine va_get (D := D) (ci := 0) (v := .ref a4) (C := RX0) (T := TX0) (N := 8) hx hb hts hin hown hK hP 0 rfl rfl 3 (by decide) (hts (.fieldLink RX0 19 "OddsSampling" "upperWeights" "[J") (by decide +kernel)) (fun _ h9 => h9) rfl dX0_weigh_11 ?_
  refine lv_bipush (v := nI 6) hx hb dX0_weigh_14 (by decide) ?_
  refine mu_callv (va_runV (As := [.ref a4, .int (nI 6)]) (rest := []) ⟨hx, hb, hml, hown, hts⟩ (kX0_weighHalf l D cJ h a1 a2 a3 a4 a5 a4 u d uw fn qn sd (nI 6) _) (cwV 2 hts gX0_weigh_X0_weighHalf rfl rfl rfl ok_X0_weighHalf ⟨Nat.le_of_ble_eq_true rfl, Nat.le_of_ble_eq_true rfl⟩) ⟨oo_blindM, va_recv hK hP (ci := 0) (q0 := 0) rfl rfl, oo_psM hP hD hK [0, 1, 2, 4] rfl rfl [0] rfl⟩ rfl rfl hl.1 rfl (lv_room (Nat.le_of_ble_eq_true rfl)) dX0_weigh_16 ⟨Nat.le_of_ble_eq_true rfl, Nat.le_of_ble_eq_true rfl⟩) hP hD hS hA [0, 1, 2, 4] rfl (oo_fc (oo_fc (oo_fc (oo_fc rfl)))) (fun H locs hP hD hS => ?_)
  have hP : va_P D vwCl (xW cJ h a1 a2 a3 a4 a5 u d (kl_whO u d (0 : Int32) lw 6) (kl_whO u d (nI 6) uw 6) an (nI fn) (nI qn) sd) H := hP
  have hD : va_D _ (xW cJ h a1 a2 a3 a4 a5 u d (kl_whO u d (0 : Int32) lw 6) (kl_whO u d (nI 6) uw 6) an (nI fn) (nI qn) sd) := hD
  exact mu_retv hx hb hr hlocks hP hD hS dX0_weigh_19
theorem ok_X0_putOdds : yX0_putOdds.cls = RX0 ∧ yX0_putOdds.cls ≠ "java/lang/invoke/MethodHandle" ∧ yX0_putOdds.cls ≠ "java/lang/invoke/VarHandle" ∧ (parseMethodDescriptor yX0_putOdds.desc).map (fun d => d.parameters.length) = some 3 := by decide +kernel
set_option maxHeartbeats 4000000 in
set_option maxRecDepth 100000 in
theorem kX0_putOdds (l : Launch) (D : va_G) (cJ : ClassId) (h a1 a2 a3 a4 a5 : Nat) (u d lw uw an : Nat → Int64) (fn qn : Nat) (sd : Int64) (k : Int32) (up : Int64) (dn : Int64) : MuV l yX0_putOdds wsX0_putOdds ({ frames := 3, cells := 0, slots := 0, locals := 74 } : Room) [.ref h, .int k, .long up, .long dn] D (xW cJ h a1 a2 a3 a4 a5 u d lw uw an (nI fn) (nI qn) sd) [(cJ, .long)] (xW cJ h a1 a2 a3 a4 a5 (kvX0_put_c0 12 u k up) (kvX0_put_c0 12 d k dn) (kl_whO (kvX0_put_c0 12 u k up) (kvX0_put_c0 12 d k dn) (0 : Int32) lw 6) (kl_whO (kvX0_put_c0 12 u k up) (kvX0_put_c0 12 d k dn) (nI 6) uw 6) an (nI fn) (nI qn) sd) := by
  intro sz
  refine oo_head (C := RX0) (cc := cX0_putOdds) (maxL := 6) (ret := none) (by decide) rfl rfl (Nat.le_of_ble_eq_true rfl) ?_
  intro p e s m below meth c hx hb hr hlocks hml hown hnm hts hpre ls hl
  have hl : lv_has ls 6 [(0, .ref h), (1, .int k), (2, .long up), (4, .long dn)] := hl
  obtain ⟨rfl, hP, hK, hD0⟩ := hpre
  have hD := hD0.self (sz := s.heap.size)
  have hA := oo_A (xW cJ h a1 a2 a3 a4 a5 u d lw uw an (nI fn) (nI qn) sd) s
  have hS : va_S (va_A (xW cJ h a1 a2 a3 a4 a5 u d lw uw an (nI fn) (nI qn) sd) s.heap.size) s.heap s.heap [] := va_S.rf
  have hin : ∀ w ∈ wsX00, w ∈ wsX0_putOdds := fun w h => List.mem_cons_of_mem _ (List.mem_append_right _ h)
  refine lv_aload_n hx hb dX0_putOdds_0 rfl (lv_at hl 0 rfl) ?_
  refine va_get (D := D) (ci := 0) (v := .ref a1) (C := RX0) (T := TX0) (N := 8) hx hb hts hin hown hK hP 0 rfl rfl 0 (by decide) (hts (.fieldLink RX0 9 "OddsSampling" "ups" "[J") (by decide +kernel)) (fun _ h9 => h9) rfl dX0_putOdds_1 ?_
  refine lv_iload_n hx hb dX0_putOdds_4 rfl (lv_at hl 1 rfl) ?_
  refine lv_lload_n hx hb dX0_putOdds_5 rfl (lv_at hl 2 rfl) ?_
  refine mu_callv (va_runS (As := [.ref a1, .int k, .long up]) (rest := []) ⟨hx, hb, hml, hown, hts⟩ (kX0_put l D cJ a1 12 u k up (by omega) _) (va_cwS 3 hts gX0_putOdds_X0_put rfl rfl rfl ok_X0_put ⟨Nat.le_of_ble_eq_true rfl, Nat.le_of_ble_eq_true rfl⟩) ⟨oo_blindM, oo_psM hP hD hK [1] rfl rfl [0] rfl⟩ rfl rfl hl.1 rfl (lv_room (Nat.le_of_ble_eq_true rfl)) dX0_putOdds_6 ⟨Nat.le_of_ble_eq_true rfl, Nat.le_of_ble_eq_true rfl⟩) hP hD hS hA [1] rfl (oo_fc rfl) (fun H locs hP hD hS => ?_)
  have hP : va_P D vwCl (xW cJ h a1 a2 a3 a4 a5 (kvX0_put_c0 12 u k up) d lw uw an (nI fn) (nI qn) sd) H := hP
  have hD : va_D _ (xW cJ h a1 a2 a3 a4 a5 (kvX0_put_c0 12 u k up) d lw uw an (nI fn) (nI qn) sd) := hD
  refine lv_aload_n hx hb dX0_putOdds_9 rfl (lv_at hl 0 rfl) ?_
  refine va_get (D := D) (ci := 0) (v := .ref a2) (C := RX0) (T := TX0) (N := 8) hx hb hts hin hown hK hP 0 rfl rfl 1 (by decide) (hts (.fieldLink RX0 13 "OddsSampling" "downs" "[J") (by decide +kernel)) (fun _ h9 => h9) rfl dX0_putOdds_10 ?_
  refine lv_iload_n hx hb dX0_putOdds_13 rfl (lv_at hl 1 rfl) ?_
  refine lv_lload hx hb dX0_putOdds_14 (lv_at hl 3 rfl) ?_
  refine mu_callv (va_runS (As := [.ref a2, .int k, .long dn]) (rest := []) ⟨hx, hb, hml, hown, hts⟩ (kX0_put l D cJ a2 12 d k dn (by omega) _) (va_cwS 3 hts gX0_putOdds_X0_put rfl rfl rfl ok_X0_put ⟨Nat.le_of_ble_eq_true rfl, Nat.le_of_ble_eq_true rfl⟩) ⟨oo_blindM, oo_psM hP hD hK [2] rfl rfl [0] rfl⟩ rfl rfl hl.1 rfl (lv_room (Nat.le_of_ble_eq_true rfl)) dX0_putOdds_16 ⟨Nat.le_of_ble_eq_true rfl, Nat.le_of_ble_eq_true rfl⟩) hP hD hS hA [2] rfl (oo_fc rfl) (fun H locs hP hD hS => ?_)
  have hP : va_P D vwCl (xW cJ h a1 a2 a3 a4 a5 (kvX0_put_c0 12 u k up) (kvX0_put_c0 12 d k dn) lw uw an (nI fn) (nI qn) sd) H := hP
  have hD : va_D _ (xW cJ h a1 a2 a3 a4 a5 (kvX0_put_c0 12 u k up) (kvX0_put_c0 12 d k dn) lw uw an (nI fn) (nI qn) sd) := hD
  refine lv_aload_n hx hb dX0_putOdds_19 rfl (lv_at hl 0 rfl) ?_
  refine mu_callv (va_runV (As := []) (rest := []) ⟨hx, hb, hml, hown, hts⟩ (kX0_weigh l D cJ h a1 a2 a3 a4 a5 (kvX0_put_c0 12 u k up) (kvX0_put_c0 12 d k dn) lw uw an fn qn sd _) (cwV 0 hts gX0_putOdds_X0_weigh rfl rfl rfl ok_X0_weigh ⟨Nat.le_of_ble_eq_true rfl, Nat.le_of_ble_eq_true rfl⟩) ⟨oo_blindM, va_recv hK hP (ci := 0) (q0 := 0) rfl rfl, oo_psM hP hD hK [0, 1, 2, 3, 4, 5] rfl rfl [0] rfl⟩ rfl rfl hl.1 rfl (lv_room (Nat.le_of_ble_eq_true rfl)) dX0_putOdds_20 ⟨Nat.le_of_ble_eq_true rfl, Nat.le_of_ble_eq_true rfl⟩) hP hD hS hA [0, 1, 2, 3, 4, 5] rfl (oo_fc (oo_fc (oo_fc (oo_fc (oo_fc (oo_fc rfl)))))) (fun H locs hP hD hS => ?_)
  have hP : va_P D vwCl (xW cJ h a1 a2 a3 a4 a5 (kvX0_put_c0 12 u k up) (kvX0_put_c0 12 d k dn) (kl_whO (kvX0_put_c0 12 u k up) (kvX0_put_c0 12 d k dn) (0 : Int32) lw 6) (kl_whO (kvX0_put_c0 12 u k up) (kvX0_put_c0 12 d k dn) (nI 6) uw 6) an (nI fn) (nI qn) sd) H := hP
  have hD : va_D _ (xW cJ h a1 a2 a3 a4 a5 (kvX0_put_c0 12 u k up) (kvX0_put_c0 12 d k dn) (kl_whO (kvX0_put_c0 12 u k up) (kvX0_put_c0 12 d k dn) (0 : Int32) lw 6) (kl_whO (kvX0_put_c0 12 u k up) (kvX0_put_c0 12 d k dn) (nI 6) uw 6) an (nI fn) (nI qn) sd) := hD
  exact mu_retv hx hb hr hlocks hP hD hS dX0_putOdds_23
end
section
theorem ok_X0_sumWhenSurely : yX0_sumWhenSurely.cls = RX0 ∧ yX0_sumWhenSurely.cls ≠ "java/lang/invoke/MethodHandle" ∧ yX0_sumWhenSurely.cls ≠ "java/lang/invoke/VarHandle" ∧ (parseMethodDescriptor yX0_sumWhenSurely.desc).map (fun d => d.parameters.length) = some 3 := by decide +kernel
def kvX0_sumWhenSurely (u : Nat → Int64) (d : Nat → Int64) (lw : Nat → Int64) (uw : Nat → Int64) (an : Nat → Int64) (qn : Nat) (q : Int32) (k : Int32) (up : Int32) : Int64 := kvX0_sumOfBoth (kl_whO (kvX0_put_c0 12 u k up.toInt64) (kvX0_put_c0 12 d k (1 : Int64)) (0 : Int32) lw 6) (kl_whO (kvX0_put_c0 12 u k up.toInt64) (kvX0_put_c0 12 d k (1 : Int64)) (nI 6) uw 6) an qn q q
set_option maxHeartbeats 4000000 in
set_option maxRecDepth 100000 in
theorem kX0_sumWhenSurely (l : Launch) (D : va_G) (cJ : ClassId) (h a1 a2 a3 a4 a5 : Nat) (u d lw uw an : Nat → Int64) (fn qn : Nat) (sd : Int64) (q : Int32) (k : Int32) (up : Int32) : MuL l yX0_sumWhenSurely wsX0_sumWhenSurely ({ frames := 4, cells := 0, slots := 0, locals := 99 } : Room) [.ref h, .int q, .int k, .int up] D (xW cJ h a1 a2 a3 a4 a5 u d lw uw an (nI fn) (nI qn) sd) [(cJ, .long)] (xW cJ h a1 a2 a3 a4 a5 (kvX0_put_c0 12 (kvX0_put_c0 12 u k up.toInt64) k (kvX0_at 12 u k)) (kvX0_put_c0 12 (kvX0_put_c0 12 d k (1 : Int64)) k (kvX0_at 12 d k)) (kl_whO (kvX0_put_c0 12 (kvX0_put_c0 12 u k up.toInt64) k (kvX0_at 12 u k)) (kvX0_put_c0 12 (kvX0_put_c0 12 d k (1 : Int64)) k (kvX0_at 12 d k)) (0 : Int32) (kl_whO (kvX0_put_c0 12 u k up.toInt64) (kvX0_put_c0 12 d k (1 : Int64)) (0 : Int32) lw 6) 6) (kl_whO (kvX0_put_c0 12 (kvX0_put_c0 12 u k up.toInt64) k (kvX0_at 12 u k)) (kvX0_put_c0 12 (kvX0_put_c0 12 d k (1 : Int64)) k (kvX0_at 12 d k)) (nI 6) (kl_whO (kvX0_put_c0 12 u k up.toInt64) (kvX0_put_c0 12 d k (1 : Int64)) (nI 6) uw 6) 6) an (nI fn) (nI qn) sd) (kvX0_sumWhenSurely u d lw uw an qn q k up) := by
  intro sz
  refine oo_head (C := RX0) (cc := cX0_sumWhenSurely) (maxL := 10) (ret := (some .long)) (by decide) rfl rfl (Nat.le_of_ble_eq_true rfl) ?_
  intro p e s m below meth c hx hb hr hlocks hml hown hnm hts hpre ls hl
  have hl : lv_has ls 10 [(0, .ref h), (1, .int q), (2, .int k), (3, .int up)] := hl
  obtain ⟨rfl, hP, hK, hD0⟩ := hpre
  have hD := hD0.self (sz := s.heap.size)
  have hA := oo_A (xW cJ h a1 a2 a3 a4 a5 u d lw uw an (nI fn) (nI qn) sd) s
  have hS : va_S (va_A (xW cJ h a1 a2 a3 a4 a5 u d lw uw an (nI fn) (nI qn) sd) s.heap.size) s.heap s.heap [] := va_S.rf
  have hin : ∀ w ∈ wsX00, w ∈ wsX0_sumWhenSurely := fun w h => List.mem_cons_of_mem _ (List.mem_append_right _ h)
  refine lv_aload_n hx hb dX0_sumWhenSurely_0 rfl (lv_at hl 0 rfl) ?_
  refine va_get (D := D) (ci := 0) (v := .ref a1) (C := RX0) (T := TX0) (N := 8) hx hb hts hin hown hK hP 0 rfl rfl 0 (by decide) (hts (.fieldLink RX0 9 "OddsSampling" "ups" "[J") (by decide +kernel)) (fun _ h9 => h9) rfl dX0_sumWhenSurely_1 ?_
  refine lv_iload_n hx hb dX0_sumWhenSurely_4 rfl (lv_at hl 2 rfl) ?_
  refine ro_calll (va_runS (As := [.ref a1, .int k]) (rest := []) ⟨hx, hb, hml, hown, hts⟩ (kX0_at l D cJ a1 12 u k (by omega)) (va_cwS 2 hts gX0_sumWhenSurely_X0_at rfl rfl rfl ok_X0_at ⟨Nat.le_of_ble_eq_true rfl, Nat.le_of_ble_eq_true rfl⟩) ⟨oo_blind, oo_ps hP hK [1] rfl [0] rfl⟩ rfl rfl hl.1 rfl (lv_room (Nat.le_of_ble_eq_true rfl)) dX0_sumWhenSurely_5 ⟨Nat.le_of_ble_eq_true rfl, Nat.le_of_ble_eq_true rfl⟩) hP hS (fun H locs hP hS => ?_)
  refine lv_lstore (lv' := [(4, .long (kvX0_at 12 u k)), (0, .ref h), (1, .int q), (2, .int k), (3, .int up)]) hx hb dX0_sumWhenSurely_8 hl (by decide) rfl (fun ls hl => ?_)
  refine lv_aload_n hx hb dX0_sumWhenSurely_10 rfl (lv_at hl 1 rfl) ?_
  refine va_get (D := D) (ci := 0) (v := .ref a2) (C := RX0) (T := TX0) (N := 8) hx hb hts hin hown hK hP 0 rfl rfl 1 (by decide) (hts (.fieldLink RX0 13 "OddsSampling" "downs" "[J") (by decide +kernel)) (fun _ h9 => h9) rfl dX0_sumWhenSurely_11 ?_
  refine lv_iload_n hx hb dX0_sumWhenSurely_14 rfl (lv_at hl 3 rfl) ?_
  refine ro_calll (va_runS (As := [.ref a2, .int k]) (rest := []) ⟨hx, hb, hml, hown, hts⟩ (kX0_at l D cJ a2 12 d k (by omega)) (va_cwS 2 hts gX0_sumWhenSurely_X0_at rfl rfl rfl ok_X0_at ⟨Nat.le_of_ble_eq_true rfl, Nat.le_of_ble_eq_true rfl⟩) ⟨oo_blind, oo_ps hP hK [2] rfl [0] rfl⟩ rfl rfl hl.1 rfl (lv_room (Nat.le_of_ble_eq_true rfl)) dX0_sumWhenSurely_15 ⟨Nat.le_of_ble_eq_true rfl, Nat.le_of_ble_eq_true rfl⟩) hP hS (fun H locs hP hS => ?_)
  refine lv_lstore (lv' := [(6, .long (kvX0_at 12 d k)), (4, .long (kvX0_at 12 u k)), (0, .ref h), (1, .int q), (2, .int k), (3, .int up)]) hx hb dX0_sumWhenSurely_18 hl (by decide) rfl (fun ls hl => ?_)
  refine lv_aload_n hx hb dX0_sumWhenSurely_20 rfl (lv_at hl 2 rfl) ?_
  refine lv_iload_n hx hb dX0_sumWhenSurely_21 rfl (lv_at hl 4 rfl) ?_
  refine lv_iload_n hx hb dX0_sumWhenSurely_22 rfl (lv_at hl 5 rfl) ?_
  refine lv_i2l hx hb dX0_sumWhenSurely_23 rfl ?_
  refine lv_lconst (v := (1 : Int64)) hx hb dX0_sumWhenSurely_24 (by decide) ?_
  refine mu_callv (va_runV (As := [.int k, .long up.toInt64, .long (1 : Int64)]) (rest := []) ⟨hx, hb, hml, hown, hts⟩ (kX0_putOdds l D cJ h a1 a2 a3 a4 a5 u d lw uw an fn qn sd k up.toInt64 (1 : Int64) _) (cwV 3 hts gX0_sumWhenSurely_X0_putOdds rfl rfl rfl ok_X0_putOdds ⟨Nat.le_of_ble_eq_true rfl, Nat.le_of_ble_eq_true rfl⟩) ⟨oo_blindM, va_recv hK hP (ci := 0) (q0 := 0) rfl rfl, oo_psM hP hD hK [0, 1, 2, 3, 4, 5] rfl rfl [0] rfl⟩ rfl rfl hl.1 rfl (lv_room (Nat.le_of_ble_eq_true rfl)) dX0_sumWhenSurely_25 ⟨Nat.le_of_ble_eq_true rfl, Nat.le_of_ble_eq_true rfl⟩) hP hD hS hA [0, 1, 2, 3, 4, 5] rfl (oo_fc (oo_fc (oo_fc (oo_fc (oo_fc (oo_fc rfl)))))) (fun H locs hP hD hS => ?_)
  have hP : va_P D vwCl (xW cJ h a1 a2 a3 a4 a5 (kvX0_put_c0 12 u k up.toInt64) (kvX0_put_c0 12 d k (1 : Int64)) (kl_whO (kvX0_put_c0 12 u k up.toInt64) (kvX0_put_c0 12 d k (1 : Int64)) (0 : Int32) lw 6) (kl_whO (kvX0_put_c0 12 u k up.toInt64) (kvX0_put_c0 12 d k (1 : Int64)) (nI 6) uw 6) an (nI fn) (nI qn) sd) H := hP
  have hD : va_D _ (xW cJ h a1 a2 a3 a4 a5 (kvX0_put_c0 12 u k up.toInt64) (kvX0_put_c0 12 d k (1 : Int64)) (kl_whO (kvX0_put_c0 12 u k up.toInt64) (kvX0_put_c0 12 d k (1 : Int64)) (0 : Int32) lw 6) (kl_whO (kvX0_put_c0 12 u k up.toInt64) (kvX0_put_c0 12 d k (1 : Int64)) (nI 6) uw 6) an (nI fn) (nI qn) sd) := hD
  refine lv_aload_n hx hb dX0_sumWhenSurely_28 rfl (lv_at hl 2 rfl) ?_
  refine lv_iload_n hx hb dX0_sumWhenSurely_29 rfl (lv_at hl 3 rfl) ?_
  refine lv_iload_n hx hb dX0_sumWhenSurely_30 rfl (lv_at hl 3 rfl) ?_
  refine ro_calll (va_runV (As := [.int q, .int q]) (rest := []) ⟨hx, hb, hml, hown, hts⟩ (kX0_sumOfBoth l D cJ h a1 a2 a3 a4 a5 (kvX0_put_c0 12 u k up.toInt64) (kvX0_put_c0 12 d k (1 : Int64)) (kl_whO (kvX0_put_c0 12 u k up.toInt64) (kvX0_put_c0 12 d k (1 : Int64)) (0 : Int32) lw 6) (kl_whO (kvX0_put_c0 12 u k up.toInt64) (kvX0_put_c0 12 d k (1 : Int64)) (nI 6) uw 6) an fn qn sd q q) (cwV 2 hts gX0_sumWhenSurely_X0_sumOfBoth rfl rfl rfl ok_X0_sumOfBoth ⟨Nat.le_of_ble_eq_true rfl, Nat.le_of_ble_eq_true rfl⟩) ⟨oo_blind, va_recv hK hP (ci := 0) (q0 := 0) rfl rfl, oo_ps hP hK [0, 1, 2, 3, 4, 5] rfl [0] rfl⟩ rfl rfl hl.1 rfl (lv_room (Nat.le_of_ble_eq_true rfl)) dX0_sumWhenSurely_31 ⟨Nat.le_of_ble_eq_true rfl, Nat.le_of_ble_eq_true rfl⟩) hP hS (fun H locs hP hS => ?_)
  refine lv_lstore (lv' := [(8, .long (kvX0_sumOfBoth (kl_whO (kvX0_put_c0 12 u k up.toInt64) (kvX0_put_c0 12 d k (1 : Int64)) (0 : Int32) lw 6) (kl_whO (kvX0_put_c0 12 u k up.toInt64) (kvX0_put_c0 12 d k (1 : Int64)) (nI 6) uw 6) an qn q q)), (6, .long (kvX0_at 12 d k)), (4, .long (kvX0_at 12 u k)), (0, .ref h), (1, .int q), (2, .int k), (3, .int up)]) hx hb dX0_sumWhenSurely_34 hl (by decide) rfl (fun ls hl => ?_)
  refine lv_aload_n hx hb dX0_sumWhenSurely_36 rfl (lv_at hl 3 rfl) ?_
  refine lv_iload_n hx hb dX0_sumWhenSurely_37 rfl (lv_at hl 5 rfl) ?_
  refine lv_lload hx hb dX0_sumWhenSurely_38 (lv_at hl 2 rfl) ?_
  refine lv_lload hx hb dX0_sumWhenSurely_40 (lv_at hl 1 rfl) ?_
  refine mu_callv (va_runV (As := [.int k, .long (kvX0_at 12 u k), .long (kvX0_at 12 d k)]) (rest := []) ⟨hx, hb, hml, hown, hts⟩ (kX0_putOdds l D cJ h a1 a2 a3 a4 a5 (kvX0_put_c0 12 u k up.toInt64) (kvX0_put_c0 12 d k (1 : Int64)) (kl_whO (kvX0_put_c0 12 u k up.toInt64) (kvX0_put_c0 12 d k (1 : Int64)) (0 : Int32) lw 6) (kl_whO (kvX0_put_c0 12 u k up.toInt64) (kvX0_put_c0 12 d k (1 : Int64)) (nI 6) uw 6) an fn qn sd k (kvX0_at 12 u k) (kvX0_at 12 d k) _) (cwV 3 hts gX0_sumWhenSurely_X0_putOdds rfl rfl rfl ok_X0_putOdds ⟨Nat.le_of_ble_eq_true rfl, Nat.le_of_ble_eq_true rfl⟩) ⟨oo_blindM, va_recv hK hP (ci := 0) (q0 := 0) rfl rfl, oo_psM hP hD hK [0, 1, 2, 3, 4, 5] rfl rfl [0] rfl⟩ rfl rfl hl.1 rfl (lv_room (Nat.le_of_ble_eq_true rfl)) dX0_sumWhenSurely_42 ⟨Nat.le_of_ble_eq_true rfl, Nat.le_of_ble_eq_true rfl⟩) hP hD hS hA [0, 1, 2, 3, 4, 5] rfl (oo_fc (oo_fc (oo_fc (oo_fc (oo_fc (oo_fc rfl)))))) (fun H locs hP hD hS => ?_)
  have hP : va_P D vwCl (xW cJ h a1 a2 a3 a4 a5 (kvX0_put_c0 12 (kvX0_put_c0 12 u k up.toInt64) k (kvX0_at 12 u k)) (kvX0_put_c0 12 (kvX0_put_c0 12 d k (1 : Int64)) k (kvX0_at 12 d k)) (kl_whO (kvX0_put_c0 12 (kvX0_put_c0 12 u k up.toInt64) k (kvX0_at 12 u k)) (kvX0_put_c0 12 (kvX0_put_c0 12 d k (1 : Int64)) k (kvX0_at 12 d k)) (0 : Int32) (kl_whO (kvX0_put_c0 12 u k up.toInt64) (kvX0_put_c0 12 d k (1 : Int64)) (0 : Int32) lw 6) 6) (kl_whO (kvX0_put_c0 12 (kvX0_put_c0 12 u k up.toInt64) k (kvX0_at 12 u k)) (kvX0_put_c0 12 (kvX0_put_c0 12 d k (1 : Int64)) k (kvX0_at 12 d k)) (nI 6) (kl_whO (kvX0_put_c0 12 u k up.toInt64) (kvX0_put_c0 12 d k (1 : Int64)) (nI 6) uw 6) 6) an (nI fn) (nI qn) sd) H := hP
  have hD : va_D _ (xW cJ h a1 a2 a3 a4 a5 (kvX0_put_c0 12 (kvX0_put_c0 12 u k up.toInt64) k (kvX0_at 12 u k)) (kvX0_put_c0 12 (kvX0_put_c0 12 d k (1 : Int64)) k (kvX0_at 12 d k)) (kl_whO (kvX0_put_c0 12 (kvX0_put_c0 12 u k up.toInt64) k (kvX0_at 12 u k)) (kvX0_put_c0 12 (kvX0_put_c0 12 d k (1 : Int64)) k (kvX0_at 12 d k)) (0 : Int32) (kl_whO (kvX0_put_c0 12 u k up.toInt64) (kvX0_put_c0 12 d k (1 : Int64)) (0 : Int32) lw 6) 6) (kl_whO (kvX0_put_c0 12 (kvX0_put_c0 12 u k up.toInt64) k (kvX0_at 12 u k)) (kvX0_put_c0 12 (kvX0_put_c0 12 d k (1 : Int64)) k (kvX0_at 12 d k)) (nI 6) (kl_whO (kvX0_put_c0 12 u k up.toInt64) (kvX0_put_c0 12 d k (1 : Int64)) (nI 6) uw 6) 6) an (nI fn) (nI qn) sd) := hD
  refine lv_lload hx hb dX0_sumWhenSurely_45 (lv_at hl 0 rfl) ?_
  exact mu_retl hx hb hr hlocks hP hD hS (by unfold kvX0_sumWhenSurely; rfl) dX0_sumWhenSurely_47
theorem ok_X0_fact : yX0_fact.cls = RX0 ∧ yX0_fact.cls ≠ "java/lang/invoke/MethodHandle" ∧ yX0_fact.cls ≠ "java/lang/invoke/VarHandle" ∧ (parseMethodDescriptor yX0_fact.desc).map (fun d => d.parameters.length) = some 2 := by decide +kernel
def kvX0_fact (fn : Nat) (up : Int32) (dn : Int32) : Int32 := if (kvX0_areOdds up dn) = 0 then (-1 : Int32) else (if (nI fn) < (nI 12) then (nI fn) else (-3 : Int32))
def kvX0_fact_u (u : Nat → Int64) (fn : Nat) (up : Int32) (dn : Int32) : Nat → Int64 := if (kvX0_areOdds up dn) = 0 then u else (if (nI fn) < (nI 12) then (kvX0_put_c0 12 u (nI fn) up.toInt64) else u)
def kvX0_fact_d (d : Nat → Int64) (fn : Nat) (up : Int32) (dn : Int32) : Nat → Int64 := if (kvX0_areOdds up dn) = 0 then d else (if (nI fn) < (nI 12) then (kvX0_put_c0 12 d (nI fn) dn.toInt64) else d)
def kvX0_fact_lw (u : Nat → Int64) (d : Nat → Int64) (lw : Nat → Int64) (fn : Nat) (up : Int32) (dn : Int32) : Nat → Int64 := if (kvX0_areOdds up dn) = 0 then lw else (if (nI fn) < (nI 12) then (kl_whO (kvX0_put_c0 12 u (nI fn) up.toInt64) (kvX0_put_c0 12 d (nI fn) dn.toInt64) (0 : Int32) lw 6) else lw)
def kvX0_fact_uw (u : Nat → Int64) (d : Nat → Int64) (uw : Nat → Int64) (fn : Nat) (up : Int32) (dn : Int32) : Nat → Int64 := if (kvX0_areOdds up dn) = 0 then uw else (if (nI fn) < (nI 12) then (kl_whO (kvX0_put_c0 12 u (nI fn) up.toInt64) (kvX0_put_c0 12 d (nI fn) dn.toInt64) (nI 6) uw 6) else uw)
def kvX0_fact_fc (fn : Nat) (up : Int32) (dn : Int32) : Int32 := if (kvX0_areOdds up dn) = 0 then (nI fn) else (if (nI fn) < (nI 12) then (nI (fn + 1)) else (nI fn))
set_option maxHeartbeats 4000000 in
set_option maxRecDepth 100000 in
theorem kX0_fact (l : Launch) (D : va_G) (cJ : ClassId) (h a1 a2 a3 a4 a5 : Nat) (u d lw uw an : Nat → Int64) (fn qn : Nat) (sd : Int64) (up : Int32) (dn : Int32) : MuI l yX0_fact wsX0_fact ({ frames := 4, cells := 0, slots := 0, locals := 99 } : Room) [.ref h, .int up, .int dn] D (xW cJ h a1 a2 a3 a4 a5 u d lw uw an (nI fn) (nI qn) sd) [(cJ, .long)] (xW cJ h a1 a2 a3 a4 a5 (kvX0_fact_u u fn up dn) (kvX0_fact_d d fn up dn) (kvX0_fact_lw u d lw fn up dn) (kvX0_fact_uw u d uw fn up dn) an (kvX0_fact_fc fn up dn) (nI qn) sd) (kvX0_fact fn up dn) := by
  intro sz
  refine oo_head (C := RX0) (cc := cX0_fact) (maxL := 4) (ret := (some .int)) (by decide) rfl rfl (Nat.le_of_ble_eq_true rfl) ?_
  intro p e s m below meth c hx hb hr hlocks hml hown hnm hts hpre ls hl
  have hl : lv_has ls 4 [(0, .ref h), (1, .int up), (2, .int dn)] := hl
  obtain ⟨rfl, hP, hK, hD0⟩ := hpre
  have hD := hD0.self (sz := s.heap.size)
  have hA := oo_A (xW cJ h a1 a2 a3 a4 a5 u d lw uw an (nI fn) (nI qn) sd) s
  have hS : va_S (va_A (xW cJ h a1 a2 a3 a4 a5 u d lw uw an (nI fn) (nI qn) sd) s.heap.size) s.heap s.heap [] := va_S.rf
  have hin : ∀ w ∈ wsX00, w ∈ wsX0_fact := fun w h => List.mem_cons_of_mem _ (List.mem_append_right _ h)
  refine lv_iload_n hx hb dX0_fact_0 rfl (lv_at hl 1 rfl) ?_
  refine lv_iload_n hx hb dX0_fact_1 rfl (lv_at hl 2 rfl) ?_
  refine ro_calli (va_runS (As := [.int up, .int dn]) (rest := []) ⟨hx, hb, hml, hown, hts⟩ (kX0_areOdds l D up dn) (va_cwS 2 hts gX0_fact_X0_areOdds rfl rfl rfl ok_X0_areOdds ⟨Nat.le_of_ble_eq_true rfl, Nat.le_of_ble_eq_true rfl⟩) ⟨oo_blind, oo_ps hP hK [] rfl [] rfl⟩ rfl rfl hl.1 rfl (lv_room (Nat.le_of_ble_eq_true rfl)) dX0_fact_2 ⟨Nat.le_of_ble_eq_true rfl, Nat.le_of_ble_eq_true rfl⟩) hP hS (fun H locs hP hS => ?_)
  refine lv_if_ne (tgt := 10) hx hb dX0_fact_5 (by decide) (fun c_5 => ?_) (fun c_5 => ?_)
  · refine lv_aload_n hx hb dX0_fact_10 rfl (lv_at hl 0 rfl) ?_
    refine va_get (D := D) (ci := 0) (v := .int (nI fn)) (C := RX0) (T := TX0) (N := 8) hx hb hts hin hown hK hP 0 rfl rfl 5 (by decide) (hts (.fieldLink RX0 25 "OddsSampling" "factCount" "I") (by decide +kernel)) (fun _ h9 => h9) rfl dX0_fact_11 ?_
    refine lv_bipush (v := nI 12) hx hb dX0_fact_14 (by decide) ?_
    refine lv_icmp_lt (tgt := 22) hx hb dX0_fact_16 (by decide) (fun c_16 => ?_) (fun c_16 => ?_)
    · refine lv_aload_n hx hb dX0_fact_22 rfl (lv_at hl 0 rfl) ?_
      refine va_get (D := D) (ci := 0) (v := .int (nI fn)) (C := RX0) (T := TX0) (N := 8) hx hb hts hin hown hK hP 0 rfl rfl 5 (by decide) (hts (.fieldLink RX0 25 "OddsSampling" "factCount" "I") (by decide +kernel)) (fun _ h9 => h9) rfl dX0_fact_23 ?_
      refine lv_istore_n (lv' := [(3, .int (nI fn)), (0, .ref h), (1, .int up), (2, .int dn)]) hx hb dX0_fact_26 rfl hl (by decide) rfl (fun ls hl => ?_)
      refine lv_aload_n hx hb dX0_fact_27 rfl (lv_at hl 1 rfl) ?_
      refine lv_dup hx hb dX0_fact_28 rfl ?_
      refine va_get (D := D) (ci := 0) (v := .int (nI fn)) (C := RX0) (T := TX0) (N := 8) hx hb hts hin hown hK hP 0 rfl rfl 5 (by decide) (hts (.fieldLink RX0 25 "OddsSampling" "factCount" "I") (by decide +kernel)) (fun _ h9 => h9) rfl dX0_fact_29 ?_
      refine lv_iconst (v := (1 : Int32)) hx hb dX0_fact_32 (by decide) ?_
      refine lv_iadd hx hb dX0_fact_33 ?_
      refine oo_topI (y := nI (fn + 1)) (nI_1 fn) ?_
      refine va_put (D := D) (ci := 0) (v := .int (nI (fn + 1))) (ty := .int) (C := RX0) (T := TX0) (N := 8) hx hb hts hin tyX0 tyX0_ok nmX0 hown hK hP hD hS 0 rfl rfl 5 (by decide) (hts (.fieldLink RX0 25 "OddsSampling" "factCount" "I") (by decide +kernel)) (fun _ h9 => h9) rfl (by decide +kernel) rfl rfl (Nat.le_of_ble_eq_true rfl) dX0_fact_34 (fun H locs hP hD hS => ?_)
      have hP : va_P D vwCl (xW cJ h a1 a2 a3 a4 a5 u d lw uw an (nI (fn + 1)) (nI qn) sd) H := hP
      have hD : va_D _ (xW cJ h a1 a2 a3 a4 a5 u d lw uw an (nI (fn + 1)) (nI qn) sd) := hD
      refine lv_aload_n hx hb dX0_fact_37 rfl (lv_at hl 1 rfl) ?_
      refine lv_iload_n hx hb dX0_fact_38 rfl (lv_at hl 0 rfl) ?_
      refine lv_iload_n hx hb dX0_fact_39 rfl (lv_at hl 2 rfl) ?_
      refine lv_i2l hx hb dX0_fact_40 rfl ?_
      refine lv_iload_n hx hb dX0_fact_41 rfl (lv_at hl 3 rfl) ?_
      refine lv_i2l hx hb dX0_fact_42 rfl ?_
      refine mu_callv (va_runV (As := [.int (nI fn), .long up.toInt64, .long dn.toInt64]) (rest := []) ⟨hx, hb, hml, hown, hts⟩ (kX0_putOdds l D cJ h a1 a2 a3 a4 a5 u d lw uw an (fn + 1) qn sd (nI fn) up.toInt64 dn.toInt64 _) (cwV 3 hts gX0_fact_X0_putOdds rfl rfl rfl ok_X0_putOdds ⟨Nat.le_of_ble_eq_true rfl, Nat.le_of_ble_eq_true rfl⟩) ⟨oo_blindM, va_recv hK hP (ci := 0) (q0 := 0) rfl rfl, oo_psM hP hD hK [0, 1, 2, 3, 4, 5] rfl rfl [0] rfl⟩ rfl rfl hl.1 rfl (lv_room (Nat.le_of_ble_eq_true rfl)) dX0_fact_43 ⟨Nat.le_of_ble_eq_true rfl, Nat.le_of_ble_eq_true rfl⟩) hP hD hS hA [0, 1, 2, 3, 4, 5] rfl (oo_fc (oo_fc (oo_fc (oo_fc (oo_fc (oo_fc rfl)))))) (fun H locs hP hD hS => ?_)
      have hP : va_P D vwCl (xW cJ h a1 a2 a3 a4 a5 (kvX0_put_c0 12 u (nI fn) up.toInt64) (kvX0_put_c0 12 d (nI fn) dn.toInt64) (kl_whO (kvX0_put_c0 12 u (nI fn) up.toInt64) (kvX0_put_c0 12 d (nI fn) dn.toInt64) (0 : Int32) lw 6) (kl_whO (kvX0_put_c0 12 u (nI fn) up.toInt64) (kvX0_put_c0 12 d (nI fn) dn.toInt64) (nI 6) uw 6) an (nI (fn + 1)) (nI qn) sd) H := hP
      have hD : va_D _ (xW cJ h a1 a2 a3 a4 a5 (kvX0_put_c0 12 u (nI fn) up.toInt64) (kvX0_put_c0 12 d (nI fn) dn.toInt64) (kl_whO (kvX0_put_c0 12 u (nI fn) up.toInt64) (kvX0_put_c0 12 d (nI fn) dn.toInt64) (0 : Int32) lw 6) (kl_whO (kvX0_put_c0 12 u (nI fn) up.toInt64) (kvX0_put_c0 12 d (nI fn) dn.toInt64) (nI 6) uw 6) an (nI (fn + 1)) (nI qn) sd) := hD
      refine lv_iload_n hx hb dX0_fact_46 rfl (lv_at hl 0 rfl) ?_
      have hP := Eq.mp (congrArg (fun z9 => va_P D vwCl (xW cJ h a1 a2 a3 a4 a5 (kvX0_put_c0 12 u (nI fn) up.toInt64) (kvX0_put_c0 12 d (nI fn) dn.toInt64) (kl_whO (kvX0_put_c0 12 u (nI fn) up.toInt64) (kvX0_put_c0 12 d (nI fn) dn.toInt64) (0 : Int32) lw 6) (kl_whO (kvX0_put_c0 12 u (nI fn) up.toInt64) (kvX0_put_c0 12 d (nI fn) dn.toInt64) (nI 6) uw 6) an z9 (nI qn) sd) H) (show nI (fn + 1) = kvX0_fact_fc fn up dn from (by unfold kvX0_fact_fc; rw [if_neg c_5, if_pos c_16]))) hP
      have hP := Eq.mp (congrArg (fun z9 => va_P D vwCl (xW cJ h a1 a2 a3 a4 a5 z9 (kvX0_put_c0 12 d (nI fn) dn.toInt64) (kl_whO (kvX0_put_c0 12 u (nI fn) up.toInt64) (kvX0_put_c0 12 d (nI fn) dn.toInt64) (0 : Int32) lw 6) (kl_whO (kvX0_put_c0 12 u (nI fn) up.toInt64) (kvX0_put_c0 12 d (nI fn) dn.toInt64) (nI 6) uw 6) an (kvX0_fact_fc fn up dn) (nI qn) sd) H) (show (kvX0_put_c0 12 u (nI fn) up.toInt64) = kvX0_fact_u u fn up dn from (by unfold kvX0_fact_u; rw [if_neg c_5, if_pos c_16]))) hP
      have hP := Eq.mp (congrArg (fun z9 => va_P D vwCl (xW cJ h a1 a2 a3 a4 a5 (kvX0_fact_u u fn up dn) z9 (kl_whO (kvX0_put_c0 12 u (nI fn) up.toInt64) (kvX0_put_c0 12 d (nI fn) dn.toInt64) (0 : Int32) lw 6) (kl_whO (kvX0_put_c0 12 u (nI fn) up.toInt64) (kvX0_put_c0 12 d (nI fn) dn.toInt64) (nI 6) uw 6) an (kvX0_fact_fc fn up dn) (nI qn) sd) H) (show (kvX0_put_c0 12 d (nI fn) dn.toInt64) = kvX0_fact_d d fn up dn from (by unfold kvX0_fact_d; rw [if_neg c_5, if_pos c_16]))) hP
      have hP := Eq.mp (congrArg (fun z9 => va_P D vwCl (xW cJ h a1 a2 a3 a4 a5 (kvX0_fact_u u fn up dn) (kvX0_fact_d d fn up dn) z9 (kl_whO (kvX0_put_c0 12 u (nI fn) up.toInt64) (kvX0_put_c0 12 d (nI fn) dn.toInt64) (nI 6) uw 6) an (kvX0_fact_fc fn up dn) (nI qn) sd) H) (show kl_whO (kvX0_put_c0 12 u (nI fn) up.toInt64) (kvX0_put_c0 12 d (nI fn) dn.toInt64) (0 : Int32) lw 6 = kvX0_fact_lw u d lw fn up dn from (by unfold kvX0_fact_lw; rw [if_neg c_5, if_pos c_16]))) hP
      have hP := Eq.mp (congrArg (fun z9 => va_P D vwCl (xW cJ h a1 a2 a3 a4 a5 (kvX0_fact_u u fn up dn) (kvX0_fact_d d fn up dn) (kvX0_fact_lw u d lw fn up dn) z9 an (kvX0_fact_fc fn up dn) (nI qn) sd) H) (show kl_whO (kvX0_put_c0 12 u (nI fn) up.toInt64) (kvX0_put_c0 12 d (nI fn) dn.toInt64) (nI 6) uw 6 = kvX0_fact_uw u d uw fn up dn from (by unfold kvX0_fact_uw; rw [if_neg c_5, if_pos c_16]))) hP
      have hP : va_P D vwCl (xW cJ h a1 a2 a3 a4 a5 (kvX0_fact_u u fn up dn) (kvX0_fact_d d fn up dn) (kvX0_fact_lw u d lw fn up dn) (kvX0_fact_uw u d uw fn up dn) an (kvX0_fact_fc fn up dn) (nI qn) sd) H := hP
      have hD : va_D _ (xW cJ h a1 a2 a3 a4 a5 (kvX0_fact_u u fn up dn) (kvX0_fact_d d fn up dn) (kvX0_fact_lw u d lw fn up dn) (kvX0_fact_uw u d uw fn up dn) an (kvX0_fact_fc fn up dn) (nI qn) sd) := oo_Dre hD (oo_fc (oo_fc (oo_fc (oo_fc (oo_fc (oo_fc rfl))))))
      exact mu_reti hx hb hr hlocks hP hD hS (by unfold kvX0_fact; rw [if_neg c_5, if_pos c_16]) dX0_fact_47
    · refine lv_bipush (v := (-3 : Int32)) hx hb dX0_fact_19 (by decide) ?_
      have hP := Eq.mp (congrArg (fun z9 => va_P D vwCl (xW cJ h a1 a2 a3 a4 a5 u d lw uw an z9 (nI qn) sd) H) (show nI fn = kvX0_fact_fc fn up dn from (by unfold kvX0_fact_fc; rw [if_neg c_5, if_neg c_16]))) hP
      have hP := Eq.mp (congrArg (fun z9 => va_P D vwCl (xW cJ h a1 a2 a3 a4 a5 z9 d lw uw an (kvX0_fact_fc fn up dn) (nI qn) sd) H) (show u = kvX0_fact_u u fn up dn from (by unfold kvX0_fact_u; rw [if_neg c_5, if_neg c_16]))) hP
      have hP := Eq.mp (congrArg (fun z9 => va_P D vwCl (xW cJ h a1 a2 a3 a4 a5 (kvX0_fact_u u fn up dn) z9 lw uw an (kvX0_fact_fc fn up dn) (nI qn) sd) H) (show d = kvX0_fact_d d fn up dn from (by unfold kvX0_fact_d; rw [if_neg c_5, if_neg c_16]))) hP
      have hP := Eq.mp (congrArg (fun z9 => va_P D vwCl (xW cJ h a1 a2 a3 a4 a5 (kvX0_fact_u u fn up dn) (kvX0_fact_d d fn up dn) z9 uw an (kvX0_fact_fc fn up dn) (nI qn) sd) H) (show lw = kvX0_fact_lw u d lw fn up dn from (by unfold kvX0_fact_lw; rw [if_neg c_5, if_neg c_16]))) hP
      have hP := Eq.mp (congrArg (fun z9 => va_P D vwCl (xW cJ h a1 a2 a3 a4 a5 (kvX0_fact_u u fn up dn) (kvX0_fact_d d fn up dn) (kvX0_fact_lw u d lw fn up dn) z9 an (kvX0_fact_fc fn up dn) (nI qn) sd) H) (show uw = kvX0_fact_uw u d uw fn up dn from (by unfold kvX0_fact_uw; rw [if_neg c_5, if_neg c_16]))) hP
      have hP : va_P D vwCl (xW cJ h a1 a2 a3 a4 a5 (kvX0_fact_u u fn up dn) (kvX0_fact_d d fn up dn) (kvX0_fact_lw u d lw fn up dn) (kvX0_fact_uw u d uw fn up dn) an (kvX0_fact_fc fn up dn) (nI qn) sd) H := hP
      have hD : va_D _ (xW cJ h a1 a2 a3 a4 a5 (kvX0_fact_u u fn up dn) (kvX0_fact_d d fn up dn) (kvX0_fact_lw u d lw fn up dn) (kvX0_fact_uw u d uw fn up dn) an (kvX0_fact_fc fn up dn) (nI qn) sd) := oo_Dre hD (oo_fc (oo_fc (oo_fc (oo_fc (oo_fc (oo_fc rfl))))))
      exact mu_reti hx hb hr hlocks hP hD hS (by unfold kvX0_fact; rw [if_neg c_5, if_neg c_16]) dX0_fact_21
  · refine lv_iconst (v := (-1 : Int32)) hx hb dX0_fact_8 (by decide) ?_
    have hP := Eq.mp (congrArg (fun z9 => va_P D vwCl (xW cJ h a1 a2 a3 a4 a5 u d lw uw an z9 (nI qn) sd) H) (show nI fn = kvX0_fact_fc fn up dn from (by unfold kvX0_fact_fc; rw [if_pos c_5]))) hP
    have hP := Eq.mp (congrArg (fun z9 => va_P D vwCl (xW cJ h a1 a2 a3 a4 a5 z9 d lw uw an (kvX0_fact_fc fn up dn) (nI qn) sd) H) (show u = kvX0_fact_u u fn up dn from (by unfold kvX0_fact_u; rw [if_pos c_5]))) hP
    have hP := Eq.mp (congrArg (fun z9 => va_P D vwCl (xW cJ h a1 a2 a3 a4 a5 (kvX0_fact_u u fn up dn) z9 lw uw an (kvX0_fact_fc fn up dn) (nI qn) sd) H) (show d = kvX0_fact_d d fn up dn from (by unfold kvX0_fact_d; rw [if_pos c_5]))) hP
    have hP := Eq.mp (congrArg (fun z9 => va_P D vwCl (xW cJ h a1 a2 a3 a4 a5 (kvX0_fact_u u fn up dn) (kvX0_fact_d d fn up dn) z9 uw an (kvX0_fact_fc fn up dn) (nI qn) sd) H) (show lw = kvX0_fact_lw u d lw fn up dn from (by unfold kvX0_fact_lw; rw [if_pos c_5]))) hP
    have hP := Eq.mp (congrArg (fun z9 => va_P D vwCl (xW cJ h a1 a2 a3 a4 a5 (kvX0_fact_u u fn up dn) (kvX0_fact_d d fn up dn) (kvX0_fact_lw u d lw fn up dn) z9 an (kvX0_fact_fc fn up dn) (nI qn) sd) H) (show uw = kvX0_fact_uw u d uw fn up dn from (by unfold kvX0_fact_uw; rw [if_pos c_5]))) hP
    have hP : va_P D vwCl (xW cJ h a1 a2 a3 a4 a5 (kvX0_fact_u u fn up dn) (kvX0_fact_d d fn up dn) (kvX0_fact_lw u d lw fn up dn) (kvX0_fact_uw u d uw fn up dn) an (kvX0_fact_fc fn up dn) (nI qn) sd) H := hP
    have hD : va_D _ (xW cJ h a1 a2 a3 a4 a5 (kvX0_fact_u u fn up dn) (kvX0_fact_d d fn up dn) (kvX0_fact_lw u d lw fn up dn) (kvX0_fact_uw u d uw fn up dn) an (kvX0_fact_fc fn up dn) (nI qn) sd) := oo_Dre hD (oo_fc (oo_fc (oo_fc (oo_fc (oo_fc (oo_fc rfl))))))
    exact mu_reti hx hb hr hlocks hP hD hS (by unfold kvX0_fact; rw [if_pos c_5]) dX0_fact_9
theorem ok_X0_odds : yX0_odds.cls = RX0 ∧ yX0_odds.cls ≠ "java/lang/invoke/MethodHandle" ∧ yX0_odds.cls ≠ "java/lang/invoke/VarHandle" ∧ (parseMethodDescriptor yX0_odds.desc).map (fun d => d.parameters.length) = some 3 := by decide +kernel
def kvX0_odds (fn : Nat) (k : Int32) (up : Int32) (dn : Int32) : Int32 := if (kvX0_isFact fn k) = 0 then (-1 : Int32) else (if (kvX0_areOdds up dn) = 0 then (-1 : Int32) else (1 : Int32))
def kvX0_odds_u (u : Nat → Int64) (fn : Nat) (k : Int32) (up : Int32) (dn : Int32) : Nat → Int64 := if (kvX0_isFact fn k) = 0 then u else (if (kvX0_areOdds up dn) = 0 then u else (kvX0_put_c0 12 u k up.toInt64))
def kvX0_odds_d (d : Nat → Int64) (fn : Nat) (k : Int32) (up : Int32) (dn : Int32) : Nat → Int64 := if (kvX0_isFact fn k) = 0 then d else (if (kvX0_areOdds up dn) = 0 then d else (kvX0_put_c0 12 d k dn.toInt64))
def kvX0_odds_lw (u : Nat → Int64) (d : Nat → Int64) (lw : Nat → Int64) (fn : Nat) (k : Int32) (up : Int32) (dn : Int32) : Nat → Int64 := if (kvX0_isFact fn k) = 0 then lw else (if (kvX0_areOdds up dn) = 0 then lw else (kl_whO (kvX0_put_c0 12 u k up.toInt64) (kvX0_put_c0 12 d k dn.toInt64) (0 : Int32) lw 6))
def kvX0_odds_uw (u : Nat → Int64) (d : Nat → Int64) (uw : Nat → Int64) (fn : Nat) (k : Int32) (up : Int32) (dn : Int32) : Nat → Int64 := if (kvX0_isFact fn k) = 0 then uw else (if (kvX0_areOdds up dn) = 0 then uw else (kl_whO (kvX0_put_c0 12 u k up.toInt64) (kvX0_put_c0 12 d k dn.toInt64) (nI 6) uw 6))
set_option maxHeartbeats 4000000 in
set_option maxRecDepth 100000 in
theorem kX0_odds (l : Launch) (D : va_G) (cJ : ClassId) (h a1 a2 a3 a4 a5 : Nat) (u d lw uw an : Nat → Int64) (fn qn : Nat) (sd : Int64) (k : Int32) (up : Int32) (dn : Int32) : MuI l yX0_odds wsX0_odds ({ frames := 4, cells := 0, slots := 0, locals := 99 } : Room) [.ref h, .int k, .int up, .int dn] D (xW cJ h a1 a2 a3 a4 a5 u d lw uw an (nI fn) (nI qn) sd) [(cJ, .long)] (xW cJ h a1 a2 a3 a4 a5 (kvX0_odds_u u fn k up dn) (kvX0_odds_d d fn k up dn) (kvX0_odds_lw u d lw fn k up dn) (kvX0_odds_uw u d uw fn k up dn) an (nI fn) (nI qn) sd) (kvX0_odds fn k up dn) := by
  intro sz
  refine oo_head (C := RX0) (cc := cX0_odds) (maxL := 4) (ret := (some .int)) (by decide) rfl rfl (Nat.le_of_ble_eq_true rfl) ?_
  intro p e s m below meth c hx hb hr hlocks hml hown hnm hts hpre ls hl
  have hl : lv_has ls 4 [(0, .ref h), (1, .int k), (2, .int up), (3, .int dn)] := hl
  obtain ⟨rfl, hP, hK, hD0⟩ := hpre
  have hD := hD0.self (sz := s.heap.size)
  have hA := oo_A (xW cJ h a1 a2 a3 a4 a5 u d lw uw an (nI fn) (nI qn) sd) s
  have hS : va_S (va_A (xW cJ h a1 a2 a3 a4 a5 u d lw uw an (nI fn) (nI qn) sd) s.heap.size) s.heap s.heap [] := va_S.rf
  have hin : ∀ w ∈ wsX00, w ∈ wsX0_odds := fun w h => List.mem_cons_of_mem _ (List.mem_append_right _ h)
  refine lv_aload_n hx hb dX0_odds_0 rfl (lv_at hl 0 rfl) ?_
  refine lv_iload_n hx hb dX0_odds_1 rfl (lv_at hl 1 rfl) ?_
  refine ro_calli (va_runV (As := [.int k]) (rest := []) ⟨hx, hb, hml, hown, hts⟩ (kX0_isFact l D cJ h a1 a2 a3 a4 a5 u d lw uw an fn qn sd k) (cwV 1 hts gX0_odds_X0_isFact rfl rfl rfl ok_X0_isFact ⟨Nat.le_of_ble_eq_true rfl, Nat.le_of_ble_eq_true rfl⟩) ⟨oo_blind, va_recv hK hP (ci := 0) (q0 := 0) rfl rfl, oo_ps hP hK [0, 1, 2, 3, 4, 5] rfl [0] rfl⟩ rfl rfl hl.1 rfl (lv_room (Nat.le_of_ble_eq_true rfl)) dX0_odds_2 ⟨Nat.le_of_ble_eq_true rfl, Nat.le_of_ble_eq_true rfl⟩) hP hS (fun H locs hP hS => ?_)
  refine lv_if_eq (tgt := 16) hx hb dX0_odds_5 (by decide) (fun c_5 => ?_) (fun c_5 => ?_)
  · refine lv_iconst (v := (-1 : Int32)) hx hb dX0_odds_16 (by decide) ?_
    have hP := Eq.mp (congrArg (fun z9 => va_P D vwCl (xW cJ h a1 a2 a3 a4 a5 z9 d lw uw an (nI fn) (nI qn) sd) H) (show u = kvX0_odds_u u fn k up dn from (by unfold kvX0_odds_u; rw [if_pos c_5]))) hP
    have hP := Eq.mp (congrArg (fun z9 => va_P D vwCl (xW cJ h a1 a2 a3 a4 a5 (kvX0_odds_u u fn k up dn) z9 lw uw an (nI fn) (nI qn) sd) H) (show d = kvX0_odds_d d fn k up dn from (by unfold kvX0_odds_d; rw [if_pos c_5]))) hP
    have hP := Eq.mp (congrArg (fun z9 => va_P D vwCl (xW cJ h a1 a2 a3 a4 a5 (kvX0_odds_u u fn k up dn) (kvX0_odds_d d fn k up dn) z9 uw an (nI fn) (nI qn) sd) H) (show lw = kvX0_odds_lw u d lw fn k up dn from (by unfold kvX0_odds_lw; rw [if_pos c_5]))) hP
    have hP := Eq.mp (congrArg (fun z9 => va_P D vwCl (xW cJ h a1 a2 a3 a4 a5 (kvX0_odds_u u fn k up dn) (kvX0_odds_d d fn k up dn) (kvX0_odds_lw u d lw fn k up dn) z9 an (nI fn) (nI qn) sd) H) (show uw = kvX0_odds_uw u d uw fn k up dn from (by unfold kvX0_odds_uw; rw [if_pos c_5]))) hP
    have hP : va_P D vwCl (xW cJ h a1 a2 a3 a4 a5 (kvX0_odds_u u fn k up dn) (kvX0_odds_d d fn k up dn) (kvX0_odds_lw u d lw fn k up dn) (kvX0_odds_uw u d uw fn k up dn) an (nI fn) (nI qn) sd) H := hP
    have hD : va_D _ (xW cJ h a1 a2 a3 a4 a5 (kvX0_odds_u u fn k up dn) (kvX0_odds_d d fn k up dn) (kvX0_odds_lw u d lw fn k up dn) (kvX0_odds_uw u d uw fn k up dn) an (nI fn) (nI qn) sd) := oo_Dre hD (oo_fc (oo_fc (oo_fc (oo_fc (oo_fc (oo_fc rfl))))))
    exact mu_reti hx hb hr hlocks hP hD hS (by unfold kvX0_odds; rw [if_pos c_5]) dX0_odds_17
  · refine lv_iload_n hx hb dX0_odds_8 rfl (lv_at hl 2 rfl) ?_
    refine lv_iload_n hx hb dX0_odds_9 rfl (lv_at hl 3 rfl) ?_
    refine ro_calli (va_runS (As := [.int up, .int dn]) (rest := []) ⟨hx, hb, hml, hown, hts⟩ (kX0_areOdds l D up dn) (va_cwS 2 hts gX0_odds_X0_areOdds rfl rfl rfl ok_X0_areOdds ⟨Nat.le_of_ble_eq_true rfl, Nat.le_of_ble_eq_true rfl⟩) ⟨oo_blind, oo_ps hP hK [] rfl [] rfl⟩ rfl rfl hl.1 rfl (lv_room (Nat.le_of_ble_eq_true rfl)) dX0_odds_10 ⟨Nat.le_of_ble_eq_true rfl, Nat.le_of_ble_eq_true rfl⟩) hP hS (fun H locs hP hS => ?_)
    refine lv_if_ne (tgt := 18) hx hb dX0_odds_13 (by decide) (fun c_13 => ?_) (fun c_13 => ?_)
    · refine lv_aload_n hx hb dX0_odds_18 rfl (lv_at hl 0 rfl) ?_
      refine lv_iload_n hx hb dX0_odds_19 rfl (lv_at hl 1 rfl) ?_
      refine lv_iload_n hx hb dX0_odds_20 rfl (lv_at hl 2 rfl) ?_
      refine lv_i2l hx hb dX0_odds_21 rfl ?_
      refine lv_iload_n hx hb dX0_odds_22 rfl (lv_at hl 3 rfl) ?_
      refine lv_i2l hx hb dX0_odds_23 rfl ?_
      refine mu_callv (va_runV (As := [.int k, .long up.toInt64, .long dn.toInt64]) (rest := []) ⟨hx, hb, hml, hown, hts⟩ (kX0_putOdds l D cJ h a1 a2 a3 a4 a5 u d lw uw an fn qn sd k up.toInt64 dn.toInt64 _) (cwV 3 hts gX0_odds_X0_putOdds rfl rfl rfl ok_X0_putOdds ⟨Nat.le_of_ble_eq_true rfl, Nat.le_of_ble_eq_true rfl⟩) ⟨oo_blindM, va_recv hK hP (ci := 0) (q0 := 0) rfl rfl, oo_psM hP hD hK [0, 1, 2, 3, 4, 5] rfl rfl [0] rfl⟩ rfl rfl hl.1 rfl (lv_room (Nat.le_of_ble_eq_true rfl)) dX0_odds_24 ⟨Nat.le_of_ble_eq_true rfl, Nat.le_of_ble_eq_true rfl⟩) hP hD hS hA [0, 1, 2, 3, 4, 5] rfl (oo_fc (oo_fc (oo_fc (oo_fc (oo_fc (oo_fc rfl)))))) (fun H locs hP hD hS => ?_)
      have hP : va_P D vwCl (xW cJ h a1 a2 a3 a4 a5 (kvX0_put_c0 12 u k up.toInt64) (kvX0_put_c0 12 d k dn.toInt64) (kl_whO (kvX0_put_c0 12 u k up.toInt64) (kvX0_put_c0 12 d k dn.toInt64) (0 : Int32) lw 6) (kl_whO (kvX0_put_c0 12 u k up.toInt64) (kvX0_put_c0 12 d k dn.toInt64) (nI 6) uw 6) an (nI fn) (nI qn) sd) H := hP
      have hD : va_D _ (xW cJ h a1 a2 a3 a4 a5 (kvX0_put_c0 12 u k up.toInt64) (kvX0_put_c0 12 d k dn.toInt64) (kl_whO (kvX0_put_c0 12 u k up.toInt64) (kvX0_put_c0 12 d k dn.toInt64) (0 : Int32) lw 6) (kl_whO (kvX0_put_c0 12 u k up.toInt64) (kvX0_put_c0 12 d k dn.toInt64) (nI 6) uw 6) an (nI fn) (nI qn) sd) := hD
      refine lv_iconst (v := (1 : Int32)) hx hb dX0_odds_27 (by decide) ?_
      have hP := Eq.mp (congrArg (fun z9 => va_P D vwCl (xW cJ h a1 a2 a3 a4 a5 z9 (kvX0_put_c0 12 d k dn.toInt64) (kl_whO (kvX0_put_c0 12 u k up.toInt64) (kvX0_put_c0 12 d k dn.toInt64) (0 : Int32) lw 6) (kl_whO (kvX0_put_c0 12 u k up.toInt64) (kvX0_put_c0 12 d k dn.toInt64) (nI 6) uw 6) an (nI fn) (nI qn) sd) H) (show (kvX0_put_c0 12 u k up.toInt64) = kvX0_odds_u u fn k up dn from (by unfold kvX0_odds_u; rw [if_neg c_5, if_neg c_13]))) hP
      have hP := Eq.mp (congrArg (fun z9 => va_P D vwCl (xW cJ h a1 a2 a3 a4 a5 (kvX0_odds_u u fn k up dn) z9 (kl_whO (kvX0_put_c0 12 u k up.toInt64) (kvX0_put_c0 12 d k dn.toInt64) (0 : Int32) lw 6) (kl_whO (kvX0_put_c0 12 u k up.toInt64) (kvX0_put_c0 12 d k dn.toInt64) (nI 6) uw 6) an (nI fn) (nI qn) sd) H) (show (kvX0_put_c0 12 d k dn.toInt64) = kvX0_odds_d d fn k up dn from (by unfold kvX0_odds_d; rw [if_neg c_5, if_neg c_13]))) hP
      have hP := Eq.mp (congrArg (fun z9 => va_P D vwCl (xW cJ h a1 a2 a3 a4 a5 (kvX0_odds_u u fn k up dn) (kvX0_odds_d d fn k up dn) z9 (kl_whO (kvX0_put_c0 12 u k up.toInt64) (kvX0_put_c0 12 d k dn.toInt64) (nI 6) uw 6) an (nI fn) (nI qn) sd) H) (show kl_whO (kvX0_put_c0 12 u k up.toInt64) (kvX0_put_c0 12 d k dn.toInt64) (0 : Int32) lw 6 = kvX0_odds_lw u d lw fn k up dn from (by unfold kvX0_odds_lw; rw [if_neg c_5, if_neg c_13]))) hP
      have hP := Eq.mp (congrArg (fun z9 => va_P D vwCl (xW cJ h a1 a2 a3 a4 a5 (kvX0_odds_u u fn k up dn) (kvX0_odds_d d fn k up dn) (kvX0_odds_lw u d lw fn k up dn) z9 an (nI fn) (nI qn) sd) H) (show kl_whO (kvX0_put_c0 12 u k up.toInt64) (kvX0_put_c0 12 d k dn.toInt64) (nI 6) uw 6 = kvX0_odds_uw u d uw fn k up dn from (by unfold kvX0_odds_uw; rw [if_neg c_5, if_neg c_13]))) hP
      have hP : va_P D vwCl (xW cJ h a1 a2 a3 a4 a5 (kvX0_odds_u u fn k up dn) (kvX0_odds_d d fn k up dn) (kvX0_odds_lw u d lw fn k up dn) (kvX0_odds_uw u d uw fn k up dn) an (nI fn) (nI qn) sd) H := hP
      have hD : va_D _ (xW cJ h a1 a2 a3 a4 a5 (kvX0_odds_u u fn k up dn) (kvX0_odds_d d fn k up dn) (kvX0_odds_lw u d lw fn k up dn) (kvX0_odds_uw u d uw fn k up dn) an (nI fn) (nI qn) sd) := oo_Dre hD (oo_fc (oo_fc (oo_fc (oo_fc (oo_fc (oo_fc rfl))))))
      exact mu_reti hx hb hr hlocks hP hD hS (by unfold kvX0_odds; rw [if_neg c_5, if_neg c_13]) dX0_odds_28
    · refine lv_iconst (v := (-1 : Int32)) hx hb dX0_odds_16 (by decide) ?_
      have hP := Eq.mp (congrArg (fun z9 => va_P D vwCl (xW cJ h a1 a2 a3 a4 a5 z9 d lw uw an (nI fn) (nI qn) sd) H) (show u = kvX0_odds_u u fn k up dn from (by unfold kvX0_odds_u; rw [if_neg c_5, if_pos c_13]))) hP
      have hP := Eq.mp (congrArg (fun z9 => va_P D vwCl (xW cJ h a1 a2 a3 a4 a5 (kvX0_odds_u u fn k up dn) z9 lw uw an (nI fn) (nI qn) sd) H) (show d = kvX0_odds_d d fn k up dn from (by unfold kvX0_odds_d; rw [if_neg c_5, if_pos c_13]))) hP
      have hP := Eq.mp (congrArg (fun z9 => va_P D vwCl (xW cJ h a1 a2 a3 a4 a5 (kvX0_odds_u u fn k up dn) (kvX0_odds_d d fn k up dn) z9 uw an (nI fn) (nI qn) sd) H) (show lw = kvX0_odds_lw u d lw fn k up dn from (by unfold kvX0_odds_lw; rw [if_neg c_5, if_pos c_13]))) hP
      have hP := Eq.mp (congrArg (fun z9 => va_P D vwCl (xW cJ h a1 a2 a3 a4 a5 (kvX0_odds_u u fn k up dn) (kvX0_odds_d d fn k up dn) (kvX0_odds_lw u d lw fn k up dn) z9 an (nI fn) (nI qn) sd) H) (show uw = kvX0_odds_uw u d uw fn k up dn from (by unfold kvX0_odds_uw; rw [if_neg c_5, if_pos c_13]))) hP
      have hP : va_P D vwCl (xW cJ h a1 a2 a3 a4 a5 (kvX0_odds_u u fn k up dn) (kvX0_odds_d d fn k up dn) (kvX0_odds_lw u d lw fn k up dn) (kvX0_odds_uw u d uw fn k up dn) an (nI fn) (nI qn) sd) H := hP
      have hD : va_D _ (xW cJ h a1 a2 a3 a4 a5 (kvX0_odds_u u fn k up dn) (kvX0_odds_d d fn k up dn) (kvX0_odds_lw u d lw fn k up dn) (kvX0_odds_uw u d uw fn k up dn) an (nI fn) (nI qn) sd) := oo_Dre hD (oo_fc (oo_fc (oo_fc (oo_fc (oo_fc (oo_fc rfl))))))
      exact mu_reti hx hb hr hlocks hP hD hS (by unfold kvX0_odds; rw [if_neg c_5, if_pos c_13]) dX0_odds_17
def kl_setA (an : Nat → Int64) (qn : Nat) (w wo : Int32) : Nat → Nat → Int64
  | 0 => an
  | n + 1 => kvX0_put_c0 2560 (kl_setA an qn w wo n) (nI qn * nI 64 + nI n) (kvX0_setBlock (nI n) w wo)
def kl_someA (an : Nat → Int64) (qn : Nat) (fs lo hi : Int32) : Nat → Nat → Int64
  | 0 => an
  | n + 1 => kvX0_put_c0 2560 (kl_someA an qn fs lo hi n) (nI qn * nI 64 + nI n) (kvX0_someBlock (nI n) fs lo hi)
end
section
theorem ok_X0_set : yX0_set.cls = RX0 ∧ yX0_set.cls ≠ "java/lang/invoke/MethodHandle" ∧ yX0_set.cls ≠ "java/lang/invoke/VarHandle" ∧ (parseMethodDescriptor yX0_set.desc).map (fun d => d.parameters.length) = some 2 := by decide +kernel
def kvX0_set (fn : Nat) (qn : Nat) (w : Int32) (wo : Int32) : Int32 := if (kvX0_areFacts fn w) = 0 then (-1 : Int32) else (if (kvX0_areFacts fn wo) = 0 then (-1 : Int32) else (if (kvX0_isFull qn) = 0 then (kvX0_keepNext qn) else (-3 : Int32)))
def kvX0_set_an (an : Nat → Int64) (fn : Nat) (qn : Nat) (w : Int32) (wo : Int32) : Nat → Int64 := if (kvX0_areFacts fn w) = 0 then an else (if (kvX0_areFacts fn wo) = 0 then an else (if (kvX0_isFull qn) = 0 then (kl_setA an qn w wo 64) else an))
def kvX0_set_qc (fn : Nat) (qn : Nat) (w : Int32) (wo : Int32) : Int32 := if (kvX0_areFacts fn w) = 0 then (nI qn) else (if (kvX0_areFacts fn wo) = 0 then (nI qn) else (if (kvX0_isFull qn) = 0 then (nI (qn + 1)) else (nI qn)))
set_option maxHeartbeats 4000000 in
set_option maxRecDepth 100000 in
theorem kX0_set (l : Launch) (D : va_G) (cJ : ClassId) (h a1 a2 a3 a4 a5 : Nat) (u d lw uw an : Nat → Int64) (fn qn : Nat) (sd : Int64) (w : Int32) (wo : Int32) : MuI l yX0_set wsX0_set ({ frames := 2, cells := 0, slots := 0, locals := 46 } : Room) [.ref h, .int w, .int wo] D (xW cJ h a1 a2 a3 a4 a5 u d lw uw an (nI fn) (nI qn) sd) [(cJ, .long)] (xW cJ h a1 a2 a3 a4 a5 u d lw uw (kvX0_set_an an fn qn w wo) (nI fn) (kvX0_set_qc fn qn w wo) sd) (kvX0_set fn qn w wo) := by
  intro sz
  refine oo_head (C := RX0) (cc := cX0_set) (maxL := 4) (ret := (some .int)) (by decide) rfl rfl (Nat.le_of_ble_eq_true rfl) ?_
  intro p e s m below meth c hx hb hr hlocks hml hown hnm hts hpre ls hl
  have hl : lv_has ls 4 [(0, .ref h), (1, .int w), (2, .int wo)] := hl
  obtain ⟨rfl, hP, hK, hD0⟩ := hpre
  have hD := hD0.self (sz := s.heap.size)
  have hA := oo_A (xW cJ h a1 a2 a3 a4 a5 u d lw uw an (nI fn) (nI qn) sd) s
  have hS : va_S (va_A (xW cJ h a1 a2 a3 a4 a5 u d lw uw an (nI fn) (nI qn) sd) s.heap.size) s.heap s.heap [] := va_S.rf
  have hin : ∀ w ∈ wsX00, w ∈ wsX0_set := fun w h => List.mem_cons_of_mem _ (List.mem_append_right _ h)
  refine lv_aload_n hx hb dX0_set_0 rfl (lv_at hl 0 rfl) ?_
  refine lv_iload_n hx hb dX0_set_1 rfl (lv_at hl 1 rfl) ?_
  refine ro_calli (va_runV (As := [.int w]) (rest := []) ⟨hx, hb, hml, hown, hts⟩ (kX0_areFacts l D cJ h a1 a2 a3 a4 a5 u d lw uw an fn qn sd w) (cwV 1 hts gX0_set_X0_areFacts rfl rfl rfl ok_X0_areFacts ⟨Nat.le_of_ble_eq_true rfl, Nat.le_of_ble_eq_true rfl⟩) ⟨oo_blind, va_recv hK hP (ci := 0) (q0 := 0) rfl rfl, oo_ps hP hK [0, 1, 2, 3, 4, 5] rfl [0] rfl⟩ rfl rfl hl.1 rfl (lv_room (Nat.le_of_ble_eq_true rfl)) dX0_set_2 ⟨Nat.le_of_ble_eq_true rfl, Nat.le_of_ble_eq_true rfl⟩) hP hS (fun H locs hP hS => ?_)
  refine lv_if_eq (tgt := 16) hx hb dX0_set_5 (by decide) (fun c_5 => ?_) (fun c_5 => ?_)
  · refine lv_iconst (v := (-1 : Int32)) hx hb dX0_set_16 (by decide) ?_
    have hP := Eq.mp (congrArg (fun z9 => va_P D vwCl (xW cJ h a1 a2 a3 a4 a5 u d lw uw an (nI fn) z9 sd) H) (show nI qn = kvX0_set_qc fn qn w wo from (by unfold kvX0_set_qc; rw [if_pos c_5]))) hP
    have hP := Eq.mp (congrArg (fun z9 => va_P D vwCl (xW cJ h a1 a2 a3 a4 a5 u d lw uw z9 (nI fn) (kvX0_set_qc fn qn w wo) sd) H) (show an = kvX0_set_an an fn qn w wo from (by unfold kvX0_set_an; rw [if_pos c_5]))) hP
    have hP : va_P D vwCl (xW cJ h a1 a2 a3 a4 a5 u d lw uw (kvX0_set_an an fn qn w wo) (nI fn) (kvX0_set_qc fn qn w wo) sd) H := hP
    have hD : va_D _ (xW cJ h a1 a2 a3 a4 a5 u d lw uw (kvX0_set_an an fn qn w wo) (nI fn) (kvX0_set_qc fn qn w wo) sd) := oo_Dre hD (oo_fc (oo_fc (oo_fc (oo_fc (oo_fc (oo_fc rfl))))))
    exact mu_reti hx hb hr hlocks hP hD hS (by unfold kvX0_set; rw [if_pos c_5]) dX0_set_17
  · refine lv_aload_n hx hb dX0_set_8 rfl (lv_at hl 0 rfl) ?_
    refine lv_iload_n hx hb dX0_set_9 rfl (lv_at hl 2 rfl) ?_
    refine ro_calli (va_runV (As := [.int wo]) (rest := []) ⟨hx, hb, hml, hown, hts⟩ (kX0_areFacts l D cJ h a1 a2 a3 a4 a5 u d lw uw an fn qn sd wo) (cwV 1 hts gX0_set_X0_areFacts rfl rfl rfl ok_X0_areFacts ⟨Nat.le_of_ble_eq_true rfl, Nat.le_of_ble_eq_true rfl⟩) ⟨oo_blind, va_recv hK hP (ci := 0) (q0 := 0) rfl rfl, oo_ps hP hK [0, 1, 2, 3, 4, 5] rfl [0] rfl⟩ rfl rfl hl.1 rfl (lv_room (Nat.le_of_ble_eq_true rfl)) dX0_set_10 ⟨Nat.le_of_ble_eq_true rfl, Nat.le_of_ble_eq_true rfl⟩) hP hS (fun H locs hP hS => ?_)
    refine lv_if_ne (tgt := 18) hx hb dX0_set_13 (by decide) (fun c_13 => ?_) (fun c_13 => ?_)
    · refine lv_aload_n hx hb dX0_set_18 rfl (lv_at hl 0 rfl) ?_
      refine ro_calli (va_runV (As := []) (rest := []) ⟨hx, hb, hml, hown, hts⟩ (kX0_isFull l D cJ h a1 a2 a3 a4 a5 u d lw uw an fn qn sd) (cwV 0 hts gX0_set_X0_isFull rfl rfl rfl ok_X0_isFull ⟨Nat.le_of_ble_eq_true rfl, Nat.le_of_ble_eq_true rfl⟩) ⟨oo_blind, va_recv hK hP (ci := 0) (q0 := 0) rfl rfl, oo_ps hP hK [0, 1, 2, 3, 4, 5] rfl [0] rfl⟩ rfl rfl hl.1 rfl (lv_room (Nat.le_of_ble_eq_true rfl)) dX0_set_19 ⟨Nat.le_of_ble_eq_true rfl, Nat.le_of_ble_eq_true rfl⟩) hP hS (fun H locs hP hS => ?_)
      refine lv_if_eq (tgt := 28) hx hb dX0_set_22 (by decide) (fun c_22 => ?_) (fun c_22 => ?_)
      · refine lv_iconst (v := nI 0) hx hb dX0_set_28 (by decide) ?_
        refine lv_istore_n (lv' := [(3, .int (nI 0)), (0, .ref h), (1, .int w), (2, .int wo)]) hx hb dX0_set_29 rfl hl (by decide) rfl (fun ls hl => ?_)
        have hl : lv_has ls 4 [(0, .ref h), (1, .int w), (2, .int wo), (3, .int (nI 0))] := lv_sub hl [1, 2, 3, 0] rfl
        have hP := Eq.mp (congrArg (fun z9 => va_P D vwCl (xW cJ h a1 a2 a3 a4 a5 u d lw uw z9 (nI fn) (nI qn) sd) H) (show an = kl_setA an qn w wo 0 from (by first | (simp only [kl_setA]; done) | (simp only [kl_setA]; rw [if_neg c_5, if_neg c_13, if_pos c_22])))) hP
        have hP : va_P D vwCl (xW cJ h a1 a2 a3 a4 a5 u d lw uw (kl_setA an qn w wo 0) (nI fn) (nI qn) sd) H := hP
        have hD : va_D _ (xW cJ h a1 a2 a3 a4 a5 u d lw uw (kl_setA an qn w wo 0) (nI fn) (nI qn) sd) := oo_Dre hD (oo_fc (oo_fc (oo_fc (oo_fc (oo_fc (oo_fc rfl))))))
        refine oo_loop (N := 64) (fun n H locs ls => va_P D vwCl (xW cJ h a1 a2 a3 a4 a5 u d lw uw (kl_setA an qn w wo n) (nI fn) (nI qn) sd) H ∧ va_D (va_A (xW cJ h a1 a2 a3 a4 a5 u d lw uw an (nI fn) (nI qn) sd) s.heap.size) (xW cJ h a1 a2 a3 a4 a5 u d lw uw (kl_setA an qn w wo n) (nI fn) (nI qn) sd) ∧ va_S (va_A (xW cJ h a1 a2 a3 a4 a5 u d lw uw an (nI fn) (nI qn) sd) s.heap.size) s.heap H locs ∧ lv_has ls 4 [(0, .ref h), (1, .int w), (2, .int wo), (3, .int (nI n))]) ?_ ?_ 0 (Nat.zero_le _) ⟨hP, hD, hS, hl⟩
        · intro H locs ls hI
          obtain ⟨hP, hD, hS, hl⟩ := hI
          refine lv_iload_n hx hb dX0_set_30 rfl (lv_at hl 3 rfl) ?_
          refine lv_bipush (v := nI 64) hx hb dX0_set_31 (by decide) ?_
          refine lv_icmp_ge (tgt := 53) hx hb dX0_set_33 (by decide) (fun c_33 => ?_) (fun c_33 => ?_)
          · refine lv_aload_n hx hb dX0_set_53 rfl (lv_at hl 0 rfl) ?_
            refine mu_calli (va_runV (As := []) (rest := []) ⟨hx, hb, hml, hown, hts⟩ (kX0_keepNext l D cJ h a1 a2 a3 a4 a5 u d lw uw (kl_setA an qn w wo 64) fn qn sd _) (cwV 0 hts gX0_set_X0_keepNext rfl rfl rfl ok_X0_keepNext ⟨Nat.le_of_ble_eq_true rfl, Nat.le_of_ble_eq_true rfl⟩) ⟨oo_blindM, va_recv hK hP (ci := 0) (q0 := 0) rfl rfl, oo_psM hP hD hK [0, 1, 2, 3, 4, 5] rfl rfl [0] rfl⟩ rfl rfl hl.1 rfl (lv_room (Nat.le_of_ble_eq_true rfl)) dX0_set_54 ⟨Nat.le_of_ble_eq_true rfl, Nat.le_of_ble_eq_true rfl⟩) hP hD hS hA [0, 1, 2, 3, 4, 5] rfl (oo_fc (oo_fc (oo_fc (oo_fc (oo_fc (oo_fc rfl)))))) (fun H locs hP hD hS => ?_)
            have hP : va_P D vwCl (xW cJ h a1 a2 a3 a4 a5 u d lw uw (kl_setA an qn w wo 64) (nI fn) (nI (qn + 1)) sd) H := hP
            have hD : va_D _ (xW cJ h a1 a2 a3 a4 a5 u d lw uw (kl_setA an qn w wo 64) (nI fn) (nI (qn + 1)) sd) := hD
            have hP := Eq.mp (congrArg (fun z9 => va_P D vwCl (xW cJ h a1 a2 a3 a4 a5 u d lw uw (kl_setA an qn w wo 64) (nI fn) z9 sd) H) (show nI (qn + 1) = kvX0_set_qc fn qn w wo from (by unfold kvX0_set_qc; rw [if_neg c_5, if_neg c_13, if_pos c_22]))) hP
            have hP := Eq.mp (congrArg (fun z9 => va_P D vwCl (xW cJ h a1 a2 a3 a4 a5 u d lw uw z9 (nI fn) (kvX0_set_qc fn qn w wo) sd) H) (show (kl_setA an qn w wo 64) = kvX0_set_an an fn qn w wo from (by unfold kvX0_set_an; rw [if_neg c_5, if_neg c_13, if_pos c_22]))) hP
            have hP : va_P D vwCl (xW cJ h a1 a2 a3 a4 a5 u d lw uw (kvX0_set_an an fn qn w wo) (nI fn) (kvX0_set_qc fn qn w wo) sd) H := hP
            have hD : va_D _ (xW cJ h a1 a2 a3 a4 a5 u d lw uw (kvX0_set_an an fn qn w wo) (nI fn) (kvX0_set_qc fn qn w wo) sd) := oo_Dre hD (oo_fc (oo_fc (oo_fc (oo_fc (oo_fc (oo_fc rfl))))))
            exact mu_reti hx hb hr hlocks hP hD hS (by unfold kvX0_set; rw [if_neg c_5, if_neg c_13, if_pos c_22]) dX0_set_57
          · exact absurd (nI_le (Nat.le_refl _) (by omega)) c_33
        · intro n hltn ihn H locs ls hI
          obtain ⟨hP, hD, hS, hl⟩ := hI
          refine lv_iload_n hx hb dX0_set_30 rfl (lv_at hl 3 rfl) ?_
          refine lv_bipush (v := nI 64) hx hb dX0_set_31 (by decide) ?_
          refine lv_icmp_ge (tgt := 53) hx hb dX0_set_33 (by decide) (fun c_33 => ?_) (fun c_33 => ?_)
          · exact absurd c_33 (nI_ge hltn (by omega))
          · refine lv_aload_n hx hb dX0_set_36 rfl (lv_at hl 0 rfl) ?_
            refine lv_iload_n hx hb dX0_set_37 rfl (lv_at hl 3 rfl) ?_
            refine lv_iload_n hx hb dX0_set_38 rfl (lv_at hl 3 rfl) ?_
            refine lv_iload_n hx hb dX0_set_39 rfl (lv_at hl 1 rfl) ?_
            refine lv_iload_n hx hb dX0_set_40 rfl (lv_at hl 2 rfl) ?_
            refine ro_calll (va_runS (As := [.int (nI n), .int w, .int wo]) (rest := [.int (nI n), .ref h]) ⟨hx, hb, hml, hown, hts⟩ (kX0_setBlock l D (nI n) w wo) (va_cwS 3 hts gX0_set_X0_setBlock rfl rfl rfl ok_X0_setBlock ⟨Nat.le_of_ble_eq_true rfl, Nat.le_of_ble_eq_true rfl⟩) ⟨oo_blind, oo_ps hP hK [] rfl [] rfl⟩ rfl rfl hl.1 rfl (lv_room (Nat.le_of_ble_eq_true rfl)) dX0_set_41 ⟨Nat.le_of_ble_eq_true rfl, Nat.le_of_ble_eq_true rfl⟩) hP hS (fun H locs hP hS => ?_)
            refine mu_callv (va_runV (As := [.int (nI n), .long (kvX0_setBlock (nI n) w wo)]) (rest := []) ⟨hx, hb, hml, hown, hts⟩ (kX0_putNextBlock l D cJ h a1 a2 a3 a4 a5 u d lw uw (kl_setA an qn w wo n) fn qn sd (nI n) (kvX0_setBlock (nI n) w wo) _) (cwV 2 hts gX0_set_X0_putNextBlock rfl rfl rfl ok_X0_putNextBlock ⟨Nat.le_of_ble_eq_true rfl, Nat.le_of_ble_eq_true rfl⟩) ⟨oo_blindM, va_recv hK hP (ci := 0) (q0 := 0) rfl rfl, oo_psM hP hD hK [0, 1, 2, 3, 4, 5] rfl rfl [0] rfl⟩ rfl rfl hl.1 rfl (lv_room (Nat.le_of_ble_eq_true rfl)) dX0_set_44 ⟨Nat.le_of_ble_eq_true rfl, Nat.le_of_ble_eq_true rfl⟩) hP hD hS hA [0, 1, 2, 3, 4, 5] rfl (oo_fc (oo_fc (oo_fc (oo_fc (oo_fc (oo_fc rfl)))))) (fun H locs hP hD hS => ?_)
            have hP : va_P D vwCl (xW cJ h a1 a2 a3 a4 a5 u d lw uw (kvX0_put_c0 2560 (kl_setA an qn w wo n) (((nI qn) * (nI 64)) + (nI n)) (kvX0_setBlock (nI n) w wo)) (nI fn) (nI qn) sd) H := hP
            have hD : va_D _ (xW cJ h a1 a2 a3 a4 a5 u d lw uw (kvX0_put_c0 2560 (kl_setA an qn w wo n) (((nI qn) * (nI 64)) + (nI n)) (kvX0_setBlock (nI n) w wo)) (nI fn) (nI qn) sd) := hD
            refine lv_iinc (v := nI (n + 1)) (lv' := [(3, .int (nI (n + 1))), (0, .ref h), (1, .int w), (2, .int wo)]) hx hb dX0_set_47 hl (k := 3) rfl (oo_inc n 1) (by decide) rfl (fun ls hl => ?_)
            refine lv_goto (tgt := 30) hx hb dX0_set_50 (by decide) ?_
            have hl : lv_has ls 4 [(0, .ref h), (1, .int w), (2, .int wo), (3, .int (nI (n + 1)))] := lv_sub hl [1, 2, 3, 0] rfl
            have hP := Eq.mp (congrArg (fun z9 => va_P D vwCl (xW cJ h a1 a2 a3 a4 a5 u d lw uw z9 (nI fn) (nI qn) sd) H) (show kvX0_put_c0 2560 (kl_setA an qn w wo n) (((nI qn) * (nI 64)) + (nI n)) (kvX0_setBlock (nI n) w wo) = kl_setA an qn w wo (n + 1) from (by simp only [kl_setA]))) hP
            have hP : va_P D vwCl (xW cJ h a1 a2 a3 a4 a5 u d lw uw (kl_setA an qn w wo (n + 1)) (nI fn) (nI qn) sd) H := hP
            have hD : va_D _ (xW cJ h a1 a2 a3 a4 a5 u d lw uw (kl_setA an qn w wo (n + 1)) (nI fn) (nI qn) sd) := oo_Dre hD (oo_fc (oo_fc (oo_fc (oo_fc (oo_fc (oo_fc rfl))))))
            exact ihn _ _ _ ⟨hP, hD, hS, hl⟩
      · refine lv_bipush (v := (-3 : Int32)) hx hb dX0_set_25 (by decide) ?_
        have hP := Eq.mp (congrArg (fun z9 => va_P D vwCl (xW cJ h a1 a2 a3 a4 a5 u d lw uw an (nI fn) z9 sd) H) (show nI qn = kvX0_set_qc fn qn w wo from (by unfold kvX0_set_qc; rw [if_neg c_5, if_neg c_13, if_neg c_22]))) hP
        have hP := Eq.mp (congrArg (fun z9 => va_P D vwCl (xW cJ h a1 a2 a3 a4 a5 u d lw uw z9 (nI fn) (kvX0_set_qc fn qn w wo) sd) H) (show an = kvX0_set_an an fn qn w wo from (by unfold kvX0_set_an; rw [if_neg c_5, if_neg c_13, if_neg c_22]))) hP
        have hP : va_P D vwCl (xW cJ h a1 a2 a3 a4 a5 u d lw uw (kvX0_set_an an fn qn w wo) (nI fn) (kvX0_set_qc fn qn w wo) sd) H := hP
        have hD : va_D _ (xW cJ h a1 a2 a3 a4 a5 u d lw uw (kvX0_set_an an fn qn w wo) (nI fn) (kvX0_set_qc fn qn w wo) sd) := oo_Dre hD (oo_fc (oo_fc (oo_fc (oo_fc (oo_fc (oo_fc rfl))))))
        exact mu_reti hx hb hr hlocks hP hD hS (by unfold kvX0_set; rw [if_neg c_5, if_neg c_13, if_neg c_22]) dX0_set_27
    · refine lv_iconst (v := (-1 : Int32)) hx hb dX0_set_16 (by decide) ?_
      have hP := Eq.mp (congrArg (fun z9 => va_P D vwCl (xW cJ h a1 a2 a3 a4 a5 u d lw uw an (nI fn) z9 sd) H) (show nI qn = kvX0_set_qc fn qn w wo from (by unfold kvX0_set_qc; rw [if_neg c_5, if_pos c_13]))) hP
      have hP := Eq.mp (congrArg (fun z9 => va_P D vwCl (xW cJ h a1 a2 a3 a4 a5 u d lw uw z9 (nI fn) (kvX0_set_qc fn qn w wo) sd) H) (show an = kvX0_set_an an fn qn w wo from (by unfold kvX0_set_an; rw [if_neg c_5, if_pos c_13]))) hP
      have hP : va_P D vwCl (xW cJ h a1 a2 a3 a4 a5 u d lw uw (kvX0_set_an an fn qn w wo) (nI fn) (kvX0_set_qc fn qn w wo) sd) H := hP
      have hD : va_D _ (xW cJ h a1 a2 a3 a4 a5 u d lw uw (kvX0_set_an an fn qn w wo) (nI fn) (kvX0_set_qc fn qn w wo) sd) := oo_Dre hD (oo_fc (oo_fc (oo_fc (oo_fc (oo_fc (oo_fc rfl))))))
      exact mu_reti hx hb hr hlocks hP hD hS (by unfold kvX0_set; rw [if_neg c_5, if_pos c_13]) dX0_set_17
theorem ok_X0_some : yX0_some.cls = RX0 ∧ yX0_some.cls ≠ "java/lang/invoke/MethodHandle" ∧ yX0_some.cls ≠ "java/lang/invoke/VarHandle" ∧ (parseMethodDescriptor yX0_some.desc).map (fun d => d.parameters.length) = some 3 := by decide +kernel
def kvX0_some (fn : Nat) (qn : Nat) (fs : Int32) : Int32 := if (kvX0_areFacts fn fs) = 0 then (-1 : Int32) else (if (kvX0_isFull qn) = 0 then (kvX0_keepNext qn) else (-3 : Int32))
def kvX0_some_an (an : Nat → Int64) (fn : Nat) (qn : Nat) (fs : Int32) (lo : Int32) (hi : Int32) : Nat → Int64 := if (kvX0_areFacts fn fs) = 0 then an else (if (kvX0_isFull qn) = 0 then (kl_someA an qn fs lo hi 64) else an)
def kvX0_some_qc (fn : Nat) (qn : Nat) (fs : Int32) : Int32 := if (kvX0_areFacts fn fs) = 0 then (nI qn) else (if (kvX0_isFull qn) = 0 then (nI (qn + 1)) else (nI qn))
set_option maxHeartbeats 4000000 in
set_option maxRecDepth 100000 in
theorem kX0_some (l : Launch) (D : va_G) (cJ : ClassId) (h a1 a2 a3 a4 a5 : Nat) (u d lw uw an : Nat → Int64) (fn qn : Nat) (sd : Int64) (fs : Int32) (lo : Int32) (hi : Int32) : MuI l yX0_some wsX0_some ({ frames := 2, cells := 0, slots := 0, locals := 47 } : Room) [.ref h, .int fs, .int lo, .int hi] D (xW cJ h a1 a2 a3 a4 a5 u d lw uw an (nI fn) (nI qn) sd) [(cJ, .long)] (xW cJ h a1 a2 a3 a4 a5 u d lw uw (kvX0_some_an an fn qn fs lo hi) (nI fn) (kvX0_some_qc fn qn fs) sd) (kvX0_some fn qn fs) := by
  intro sz
  refine oo_head (C := RX0) (cc := cX0_some) (maxL := 5) (ret := (some .int)) (by decide) rfl rfl (Nat.le_of_ble_eq_true rfl) ?_
  intro p e s m below meth c hx hb hr hlocks hml hown hnm hts hpre ls hl
  have hl : lv_has ls 5 [(0, .ref h), (1, .int fs), (2, .int lo), (3, .int hi)] := hl
  obtain ⟨rfl, hP, hK, hD0⟩ := hpre
  have hD := hD0.self (sz := s.heap.size)
  have hA := oo_A (xW cJ h a1 a2 a3 a4 a5 u d lw uw an (nI fn) (nI qn) sd) s
  have hS : va_S (va_A (xW cJ h a1 a2 a3 a4 a5 u d lw uw an (nI fn) (nI qn) sd) s.heap.size) s.heap s.heap [] := va_S.rf
  have hin : ∀ w ∈ wsX00, w ∈ wsX0_some := fun w h => List.mem_cons_of_mem _ (List.mem_append_right _ h)
  refine lv_aload_n hx hb dX0_some_0 rfl (lv_at hl 0 rfl) ?_
  refine lv_iload_n hx hb dX0_some_1 rfl (lv_at hl 1 rfl) ?_
  refine ro_calli (va_runV (As := [.int fs]) (rest := []) ⟨hx, hb, hml, hown, hts⟩ (kX0_areFacts l D cJ h a1 a2 a3 a4 a5 u d lw uw an fn qn sd fs) (cwV 1 hts gX0_some_X0_areFacts rfl rfl rfl ok_X0_areFacts ⟨Nat.le_of_ble_eq_true rfl, Nat.le_of_ble_eq_true rfl⟩) ⟨oo_blind, va_recv hK hP (ci := 0) (q0 := 0) rfl rfl, oo_ps hP hK [0, 1, 2, 3, 4, 5] rfl [0] rfl⟩ rfl rfl hl.1 rfl (lv_room (Nat.le_of_ble_eq_true rfl)) dX0_some_2 ⟨Nat.le_of_ble_eq_true rfl, Nat.le_of_ble_eq_true rfl⟩) hP hS (fun H locs hP hS => ?_)
  refine lv_if_ne (tgt := 10) hx hb dX0_some_5 (by decide) (fun c_5 => ?_) (fun c_5 => ?_)
  · refine lv_aload_n hx hb dX0_some_10 rfl (lv_at hl 0 rfl) ?_
    refine ro_calli (va_runV (As := []) (rest := []) ⟨hx, hb, hml, hown, hts⟩ (kX0_isFull l D cJ h a1 a2 a3 a4 a5 u d lw uw an fn qn sd) (cwV 0 hts gX0_some_X0_isFull rfl rfl rfl ok_X0_isFull ⟨Nat.le_of_ble_eq_true rfl, Nat.le_of_ble_eq_true rfl⟩) ⟨oo_blind, va_recv hK hP (ci := 0) (q0 := 0) rfl rfl, oo_ps hP hK [0, 1, 2, 3, 4, 5] rfl [0] rfl⟩ rfl rfl hl.1 rfl (lv_room (Nat.le_of_ble_eq_true rfl)) dX0_some_11 ⟨Nat.le_of_ble_eq_true rfl, Nat.le_of_ble_eq_true rfl⟩) hP hS (fun H locs hP hS => ?_)
    refine lv_if_eq (tgt := 20) hx hb dX0_some_14 (by decide) (fun c_14 => ?_) (fun c_14 => ?_)
    · refine lv_iconst (v := nI 0) hx hb dX0_some_20 (by decide) ?_
      refine lv_istore (lv' := [(4, .int (nI 0)), (0, .ref h), (1, .int fs), (2, .int lo), (3, .int hi)]) hx hb dX0_some_21 hl (by decide) rfl (fun ls hl => ?_)
      have hl : lv_has ls 5 [(0, .ref h), (1, .int fs), (2, .int lo), (3, .int hi), (4, .int (nI 0))] := lv_sub hl [1, 2, 3, 4, 0] rfl
      have hP := Eq.mp (congrArg (fun z9 => va_P D vwCl (xW cJ h a1 a2 a3 a4 a5 u d lw uw z9 (nI fn) (nI qn) sd) H) (show an = kl_someA an qn fs lo hi 0 from (by first | (simp only [kl_someA]; done) | (simp only [kl_someA]; rw [if_neg c_5, if_pos c_14])))) hP
      have hP : va_P D vwCl (xW cJ h a1 a2 a3 a4 a5 u d lw uw (kl_someA an qn fs lo hi 0) (nI fn) (nI qn) sd) H := hP
      have hD : va_D _ (xW cJ h a1 a2 a3 a4 a5 u d lw uw (kl_someA an qn fs lo hi 0) (nI fn) (nI qn) sd) := oo_Dre hD (oo_fc (oo_fc (oo_fc (oo_fc (oo_fc (oo_fc rfl))))))
      refine oo_loop (N := 64) (fun n H locs ls => va_P D vwCl (xW cJ h a1 a2 a3 a4 a5 u d lw uw (kl_someA an qn fs lo hi n) (nI fn) (nI qn) sd) H ∧ va_D (va_A (xW cJ h a1 a2 a3 a4 a5 u d lw uw an (nI fn) (nI qn) sd) s.heap.size) (xW cJ h a1 a2 a3 a4 a5 u d lw uw (kl_someA an qn fs lo hi n) (nI fn) (nI qn) sd) ∧ va_S (va_A (xW cJ h a1 a2 a3 a4 a5 u d lw uw an (nI fn) (nI qn) sd) s.heap.size) s.heap H locs ∧ lv_has ls 5 [(0, .ref h), (1, .int fs), (2, .int lo), (3, .int hi), (4, .int (nI n))]) ?_ ?_ 0 (Nat.zero_le _) ⟨hP, hD, hS, hl⟩
      · intro H locs ls hI
        obtain ⟨hP, hD, hS, hl⟩ := hI
        refine lv_iload hx hb dX0_some_23 (lv_at hl 4 rfl) ?_
        refine lv_bipush (v := nI 64) hx hb dX0_some_25 (by decide) ?_
        refine lv_icmp_ge (tgt := 50) hx hb dX0_some_27 (by decide) (fun c_27 => ?_) (fun c_27 => ?_)
        · refine lv_aload_n hx hb dX0_some_50 rfl (lv_at hl 0 rfl) ?_
          refine mu_calli (va_runV (As := []) (rest := []) ⟨hx, hb, hml, hown, hts⟩ (kX0_keepNext l D cJ h a1 a2 a3 a4 a5 u d lw uw (kl_someA an qn fs lo hi 64) fn qn sd _) (cwV 0 hts gX0_some_X0_keepNext rfl rfl rfl ok_X0_keepNext ⟨Nat.le_of_ble_eq_true rfl, Nat.le_of_ble_eq_true rfl⟩) ⟨oo_blindM, va_recv hK hP (ci := 0) (q0 := 0) rfl rfl, oo_psM hP hD hK [0, 1, 2, 3, 4, 5] rfl rfl [0] rfl⟩ rfl rfl hl.1 rfl (lv_room (Nat.le_of_ble_eq_true rfl)) dX0_some_51 ⟨Nat.le_of_ble_eq_true rfl, Nat.le_of_ble_eq_true rfl⟩) hP hD hS hA [0, 1, 2, 3, 4, 5] rfl (oo_fc (oo_fc (oo_fc (oo_fc (oo_fc (oo_fc rfl)))))) (fun H locs hP hD hS => ?_)
          have hP : va_P D vwCl (xW cJ h a1 a2 a3 a4 a5 u d lw uw (kl_someA an qn fs lo hi 64) (nI fn) (nI (qn + 1)) sd) H := hP
          have hD : va_D _ (xW cJ h a1 a2 a3 a4 a5 u d lw uw (kl_someA an qn fs lo hi 64) (nI fn) (nI (qn + 1)) sd) := hD
          have hP := Eq.mp (congrArg (fun z9 => va_P D vwCl (xW cJ h a1 a2 a3 a4 a5 u d lw uw (kl_someA an qn fs lo hi 64) (nI fn) z9 sd) H) (show nI (qn + 1) = kvX0_some_qc fn qn fs from (by unfold kvX0_some_qc; rw [if_neg c_5, if_pos c_14]))) hP
          have hP := Eq.mp (congrArg (fun z9 => va_P D vwCl (xW cJ h a1 a2 a3 a4 a5 u d lw uw z9 (nI fn) (kvX0_some_qc fn qn fs) sd) H) (show (kl_someA an qn fs lo hi 64) = kvX0_some_an an fn qn fs lo hi from (by unfold kvX0_some_an; rw [if_neg c_5, if_pos c_14]))) hP
          have hP : va_P D vwCl (xW cJ h a1 a2 a3 a4 a5 u d lw uw (kvX0_some_an an fn qn fs lo hi) (nI fn) (kvX0_some_qc fn qn fs) sd) H := hP
          have hD : va_D _ (xW cJ h a1 a2 a3 a4 a5 u d lw uw (kvX0_some_an an fn qn fs lo hi) (nI fn) (kvX0_some_qc fn qn fs) sd) := oo_Dre hD (oo_fc (oo_fc (oo_fc (oo_fc (oo_fc (oo_fc rfl))))))
          exact mu_reti hx hb hr hlocks hP hD hS (by unfold kvX0_some; rw [if_neg c_5, if_pos c_14]) dX0_some_54
        · exact absurd (nI_le (Nat.le_refl _) (by omega)) c_27
      · intro n hltn ihn H locs ls hI
        obtain ⟨hP, hD, hS, hl⟩ := hI
        refine lv_iload hx hb dX0_some_23 (lv_at hl 4 rfl) ?_
        refine lv_bipush (v := nI 64) hx hb dX0_some_25 (by decide) ?_
        refine lv_icmp_ge (tgt := 50) hx hb dX0_some_27 (by decide) (fun c_27 => ?_) (fun c_27 => ?_)
        · exact absurd c_27 (nI_ge hltn (by omega))
        · refine lv_aload_n hx hb dX0_some_30 rfl (lv_at hl 0 rfl) ?_
          refine lv_iload hx hb dX0_some_31 (lv_at hl 4 rfl) ?_
          refine lv_iload hx hb dX0_some_33 (lv_at hl 4 rfl) ?_
          refine lv_iload_n hx hb dX0_some_35 rfl (lv_at hl 1 rfl) ?_
          refine lv_iload_n hx hb dX0_some_36 rfl (lv_at hl 2 rfl) ?_
          refine lv_iload_n hx hb dX0_some_37 rfl (lv_at hl 3 rfl) ?_
          refine ro_calll (va_runS (As := [.int (nI n), .int fs, .int lo, .int hi]) (rest := [.int (nI n), .ref h]) ⟨hx, hb, hml, hown, hts⟩ (kX0_someBlock l D (nI n) fs lo hi) (va_cwS 4 hts gX0_some_X0_someBlock rfl rfl rfl ok_X0_someBlock ⟨Nat.le_of_ble_eq_true rfl, Nat.le_of_ble_eq_true rfl⟩) ⟨oo_blind, oo_ps hP hK [] rfl [] rfl⟩ rfl rfl hl.1 rfl (lv_room (Nat.le_of_ble_eq_true rfl)) dX0_some_38 ⟨Nat.le_of_ble_eq_true rfl, Nat.le_of_ble_eq_true rfl⟩) hP hS (fun H locs hP hS => ?_)
          refine mu_callv (va_runV (As := [.int (nI n), .long (kvX0_someBlock (nI n) fs lo hi)]) (rest := []) ⟨hx, hb, hml, hown, hts⟩ (kX0_putNextBlock l D cJ h a1 a2 a3 a4 a5 u d lw uw (kl_someA an qn fs lo hi n) fn qn sd (nI n) (kvX0_someBlock (nI n) fs lo hi) _) (cwV 2 hts gX0_some_X0_putNextBlock rfl rfl rfl ok_X0_putNextBlock ⟨Nat.le_of_ble_eq_true rfl, Nat.le_of_ble_eq_true rfl⟩) ⟨oo_blindM, va_recv hK hP (ci := 0) (q0 := 0) rfl rfl, oo_psM hP hD hK [0, 1, 2, 3, 4, 5] rfl rfl [0] rfl⟩ rfl rfl hl.1 rfl (lv_room (Nat.le_of_ble_eq_true rfl)) dX0_some_41 ⟨Nat.le_of_ble_eq_true rfl, Nat.le_of_ble_eq_true rfl⟩) hP hD hS hA [0, 1, 2, 3, 4, 5] rfl (oo_fc (oo_fc (oo_fc (oo_fc (oo_fc (oo_fc rfl)))))) (fun H locs hP hD hS => ?_)
          have hP : va_P D vwCl (xW cJ h a1 a2 a3 a4 a5 u d lw uw (kvX0_put_c0 2560 (kl_someA an qn fs lo hi n) (((nI qn) * (nI 64)) + (nI n)) (kvX0_someBlock (nI n) fs lo hi)) (nI fn) (nI qn) sd) H := hP
          have hD : va_D _ (xW cJ h a1 a2 a3 a4 a5 u d lw uw (kvX0_put_c0 2560 (kl_someA an qn fs lo hi n) (((nI qn) * (nI 64)) + (nI n)) (kvX0_someBlock (nI n) fs lo hi)) (nI fn) (nI qn) sd) := hD
          refine lv_iinc (v := nI (n + 1)) (lv' := [(4, .int (nI (n + 1))), (0, .ref h), (1, .int fs), (2, .int lo), (3, .int hi)]) hx hb dX0_some_44 hl (k := 4) rfl (oo_inc n 1) (by decide) rfl (fun ls hl => ?_)
          refine lv_goto (tgt := 23) hx hb dX0_some_47 (by decide) ?_
          have hl : lv_has ls 5 [(0, .ref h), (1, .int fs), (2, .int lo), (3, .int hi), (4, .int (nI (n + 1)))] := lv_sub hl [1, 2, 3, 4, 0] rfl
          have hP := Eq.mp (congrArg (fun z9 => va_P D vwCl (xW cJ h a1 a2 a3 a4 a5 u d lw uw z9 (nI fn) (nI qn) sd) H) (show kvX0_put_c0 2560 (kl_someA an qn fs lo hi n) (((nI qn) * (nI 64)) + (nI n)) (kvX0_someBlock (nI n) fs lo hi) = kl_someA an qn fs lo hi (n + 1) from (by simp only [kl_someA]))) hP
          have hP : va_P D vwCl (xW cJ h a1 a2 a3 a4 a5 u d lw uw (kl_someA an qn fs lo hi (n + 1)) (nI fn) (nI qn) sd) H := hP
          have hD : va_D _ (xW cJ h a1 a2 a3 a4 a5 u d lw uw (kl_someA an qn fs lo hi (n + 1)) (nI fn) (nI qn) sd) := oo_Dre hD (oo_fc (oo_fc (oo_fc (oo_fc (oo_fc (oo_fc rfl))))))
          exact ihn _ _ _ ⟨hP, hD, hS, hl⟩
    · refine lv_bipush (v := (-3 : Int32)) hx hb dX0_some_17 (by decide) ?_
      have hP := Eq.mp (congrArg (fun z9 => va_P D vwCl (xW cJ h a1 a2 a3 a4 a5 u d lw uw an (nI fn) z9 sd) H) (show nI qn = kvX0_some_qc fn qn fs from (by unfold kvX0_some_qc; rw [if_neg c_5, if_neg c_14]))) hP
      have hP := Eq.mp (congrArg (fun z9 => va_P D vwCl (xW cJ h a1 a2 a3 a4 a5 u d lw uw z9 (nI fn) (kvX0_some_qc fn qn fs) sd) H) (show an = kvX0_some_an an fn qn fs lo hi from (by unfold kvX0_some_an; rw [if_neg c_5, if_neg c_14]))) hP
      have hP : va_P D vwCl (xW cJ h a1 a2 a3 a4 a5 u d lw uw (kvX0_some_an an fn qn fs lo hi) (nI fn) (kvX0_some_qc fn qn fs) sd) H := hP
      have hD : va_D _ (xW cJ h a1 a2 a3 a4 a5 u d lw uw (kvX0_some_an an fn qn fs lo hi) (nI fn) (kvX0_some_qc fn qn fs) sd) := oo_Dre hD (oo_fc (oo_fc (oo_fc (oo_fc (oo_fc (oo_fc rfl))))))
      exact mu_reti hx hb hr hlocks hP hD hS (by unfold kvX0_some; rw [if_neg c_5, if_neg c_14]) dX0_some_19
  · refine lv_iconst (v := (-1 : Int32)) hx hb dX0_some_8 (by decide) ?_
    have hP := Eq.mp (congrArg (fun z9 => va_P D vwCl (xW cJ h a1 a2 a3 a4 a5 u d lw uw an (nI fn) z9 sd) H) (show nI qn = kvX0_some_qc fn qn fs from (by unfold kvX0_some_qc; rw [if_pos c_5]))) hP
    have hP := Eq.mp (congrArg (fun z9 => va_P D vwCl (xW cJ h a1 a2 a3 a4 a5 u d lw uw z9 (nI fn) (kvX0_some_qc fn qn fs) sd) H) (show an = kvX0_some_an an fn qn fs lo hi from (by unfold kvX0_some_an; rw [if_pos c_5]))) hP
    have hP : va_P D vwCl (xW cJ h a1 a2 a3 a4 a5 u d lw uw (kvX0_some_an an fn qn fs lo hi) (nI fn) (kvX0_some_qc fn qn fs) sd) H := hP
    have hD : va_D _ (xW cJ h a1 a2 a3 a4 a5 u d lw uw (kvX0_some_an an fn qn fs lo hi) (nI fn) (kvX0_some_qc fn qn fs) sd) := oo_Dre hD (oo_fc (oo_fc (oo_fc (oo_fc (oo_fc (oo_fc rfl))))))
    exact mu_reti hx hb hr hlocks hP hD hS (by unfold kvX0_some; rw [if_pos c_5]) dX0_some_9
end
section
theorem ok_X0_joined : yX0_joined.cls ≠ "java/lang/invoke/MethodHandle" ∧ yX0_joined.cls ≠ "java/lang/invoke/VarHandle" ∧ (parseMethodDescriptor yX0_joined.desc).map (fun d => d.parameters.length) = some 3 := by decide +kernel
def kvX0_joined (op : Int32) (x y : Int64) : Int64 := if op = 0 then x &&& y else if op = 1 then x ||| y else if op = 2 then x ^^^ y else x ^^^ (-1)
theorem oo_out02 {x : Int32} (h0 : ¬ x = 0) (h1 : ¬ x = 1) (h2 : ¬ x = 2) : x.toInt < 0 ∨ 2 < x.toInt := by
  have g0 : ¬ x.toInt = 0 := lv_neT h0 rfl
  have g1 : ¬ x.toInt = 1 := lv_neT h1 rfl
  have g2 : ¬ x.toInt = 2 := lv_neT h2 rfl
  omega
set_option maxHeartbeats 4000000 in
set_option maxRecDepth 100000 in
theorem kX0_joined (l : Launch) (D : va_G) (op : Int32) (x y : Int64) : RoL l yX0_joined wsX0_joined ({ frames := 0, cells := 0, slots := 0, locals := 0 } : Room) [.int op, .long x, .long y] D ([]) [] (kvX0_joined op x y) := by
  refine oo_head (C := RX0) (cc := cX0_joined) (maxL := 5) (ret := (some .long)) (by decide) rfl rfl (Nat.le_of_ble_eq_true rfl) ?_
  intro p e s m below meth c hx hb hr hlocks hml hown hnm hts hpre ls hl
  have hl : lv_has ls 5 [(0, .int op), (1, .long x), (3, .long y)] := hl
  obtain ⟨hP, hK⟩ := hpre
  have hS : va_S oo_N s.heap s.heap [] := va_S.rf
  refine lv_iload_n hx hb dX0_joined_0 rfl (lv_at hl 0 rfl) ?_
  by_cases h0 : op = 0
  · subst h0
    refine lv_tableIn (off := 27) (tgt := 28) hx hb dX0_joined_1 (by decide) (by decide) (by decide) (by decide) ?_
    refine lv_lload_n hx hb dX0_joined_28 rfl (lv_at hl 1 rfl) ?_
    refine lv_lload_n hx hb dX0_joined_29 rfl (lv_at hl 2 rfl) ?_
    refine lv_land hx hb dX0_joined_30 ?_
    exact ro_retl hx hb hr hlocks hS rfl dX0_joined_31
  by_cases h1 : op = 1
  · subst h1
    refine lv_tableIn (off := 31) (tgt := 32) hx hb dX0_joined_1 (by decide) (by decide) (by decide) (by decide) ?_
    refine lv_lload_n hx hb dX0_joined_32 rfl (lv_at hl 1 rfl) ?_
    refine lv_lload_n hx hb dX0_joined_33 rfl (lv_at hl 2 rfl) ?_
    refine lv_lor hx hb dX0_joined_34 ?_
    exact ro_retl hx hb hr hlocks hS rfl dX0_joined_35
  by_cases h2 : op = 2
  · subst h2
    refine lv_tableIn (off := 35) (tgt := 36) hx hb dX0_joined_1 (by decide) (by decide) (by decide) (by decide) ?_
    refine lv_lload_n hx hb dX0_joined_36 rfl (lv_at hl 1 rfl) ?_
    refine lv_lload_n hx hb dX0_joined_37 rfl (lv_at hl 2 rfl) ?_
    refine lv_lxor hx hb dX0_joined_38 ?_
    exact ro_retl hx hb hr hlocks hS rfl dX0_joined_39
  · refine lv_tableOut (tgt := 40) hx hb dX0_joined_1 (oo_out02 h0 h1 h2) (by decide) ?_
    refine lv_lload_n hx hb dX0_joined_40 rfl (lv_at hl 1 rfl) ?_
    refine lv_ldc2 hx hb hown (hts (.constantLong RX0 98 (-1)) (by decide +kernel)) dX0_joined_41 ?_
    refine lv_lxor hx hb dX0_joined_44 ?_
    exact ro_retl hx hb hr hlocks hS (by unfold kvX0_joined; rw [if_neg h0, if_neg h1, if_neg h2]) dX0_joined_45
def kl_joinA (an : Nat → Int64) (qn : Nat) (op q r : Int32) : Nat → Nat → Int64
  | 0 => an
  | n + 1 => kvX0_put_c0 2560 (kl_joinA an qn op q r n) (nI qn * nI 64 + nI n) (kvX0_joined op (kvX0_blockOf (kl_joinA an qn op q r n) qn q (nI n)) (kvX0_blockOf (kl_joinA an qn op q r n) qn r (nI n)))
theorem ok_X0_join : yX0_join.cls = RX0 ∧ yX0_join.cls ≠ "java/lang/invoke/MethodHandle" ∧ yX0_join.cls ≠ "java/lang/invoke/VarHandle" ∧ (parseMethodDescriptor yX0_join.desc).map (fun d => d.parameters.length) = some 3 := by decide +kernel
def kvX0_join (qn : Nat) (op : Int32) (q : Int32) (r : Int32) : Int32 := if op < 0 then (-1 : Int32) else (if (3 : Int32) < op then (-1 : Int32) else (if (kvX0_isQuestion qn q) = 0 then (-1 : Int32) else (if op = (3 : Int32) then (if (kvX0_isFull qn) = 0 then (kvX0_keepNext qn) else (-3 : Int32)) else (if (kvX0_isQuestion qn r) = 0 then (-1 : Int32) else (if (kvX0_isFull qn) = 0 then (kvX0_keepNext qn) else (-3 : Int32))))))
def kvX0_join_an (an : Nat → Int64) (qn : Nat) (op : Int32) (q : Int32) (r : Int32) : Nat → Int64 := if op < 0 then an else (if (3 : Int32) < op then an else (if (kvX0_isQuestion qn q) = 0 then an else (if op = (3 : Int32) then (if (kvX0_isFull qn) = 0 then (kl_joinA an qn op q r 64) else an) else (if (kvX0_isQuestion qn r) = 0 then an else (if (kvX0_isFull qn) = 0 then (kl_joinA an qn op q r 64) else an)))))
def kvX0_join_qc (qn : Nat) (op : Int32) (q : Int32) (r : Int32) : Int32 := if op < 0 then (nI qn) else (if (3 : Int32) < op then (nI qn) else (if (kvX0_isQuestion qn q) = 0 then (nI qn) else (if op = (3 : Int32) then (if (kvX0_isFull qn) = 0 then (nI (qn + 1)) else (nI qn)) else (if (kvX0_isQuestion qn r) = 0 then (nI qn) else (if (kvX0_isFull qn) = 0 then (nI (qn + 1)) else (nI qn))))))
set_option maxHeartbeats 4000000 in
set_option maxRecDepth 100000 in
theorem kX0_join (l : Launch) (D : va_G) (cJ : ClassId) (h a1 a2 a3 a4 a5 : Nat) (u d lw uw an : Nat → Int64) (fn qn : Nat) (sd : Int64) (op : Int32) (q : Int32) (r : Int32) : MuI l yX0_join wsX0_join ({ frames := 2, cells := 0, slots := 0, locals := 46 } : Room) [.ref h, .int op, .int q, .int r] D (xW cJ h a1 a2 a3 a4 a5 u d lw uw an (nI fn) (nI qn) sd) [(cJ, .long)] (xW cJ h a1 a2 a3 a4 a5 u d lw uw (kvX0_join_an an qn op q r) (nI fn) (kvX0_join_qc qn op q r) sd) (kvX0_join qn op q r) := by
  intro sz
  refine oo_head (C := RX0) (cc := cX0_join) (maxL := 5) (ret := (some .int)) (by decide) rfl rfl (Nat.le_of_ble_eq_true rfl) ?_
  intro p e s m below meth c hx hb hr hlocks hml hown hnm hts hpre ls hl
  have hl : lv_has ls 5 [(0, .ref h), (1, .int op), (2, .int q), (3, .int r)] := hl
  obtain ⟨rfl, hP, hK, hD0⟩ := hpre
  have hD := hD0.self (sz := s.heap.size)
  have hA := oo_A (xW cJ h a1 a2 a3 a4 a5 u d lw uw an (nI fn) (nI qn) sd) s
  have hS : va_S (va_A (xW cJ h a1 a2 a3 a4 a5 u d lw uw an (nI fn) (nI qn) sd) s.heap.size) s.heap s.heap [] := va_S.rf
  have hin : ∀ w ∈ wsX00, w ∈ wsX0_join := fun w h => List.mem_cons_of_mem _ (List.mem_append_right _ h)
  refine lv_iload_n hx hb dX0_join_0 rfl (lv_at hl 1 rfl) ?_
  refine lv_if_lt (tgt := 17) hx hb dX0_join_1 (by decide) (fun c_1 => ?_) (fun c_1 => ?_)
  · refine lv_iconst (v := (-1 : Int32)) hx hb dX0_join_17 (by decide) ?_
    have hP := Eq.mp (congrArg (fun z9 => va_P D vwCl (xW cJ h a1 a2 a3 a4 a5 u d lw uw an (nI fn) z9 sd) s.heap) (show nI qn = kvX0_join_qc qn op q r from (by unfold kvX0_join_qc; rw [if_pos c_1]))) hP
    have hP := Eq.mp (congrArg (fun z9 => va_P D vwCl (xW cJ h a1 a2 a3 a4 a5 u d lw uw z9 (nI fn) (kvX0_join_qc qn op q r) sd) s.heap) (show an = kvX0_join_an an qn op q r from (by unfold kvX0_join_an; rw [if_pos c_1]))) hP
    have hP : va_P D vwCl (xW cJ h a1 a2 a3 a4 a5 u d lw uw (kvX0_join_an an qn op q r) (nI fn) (kvX0_join_qc qn op q r) sd) s.heap := hP
    have hD : va_D _ (xW cJ h a1 a2 a3 a4 a5 u d lw uw (kvX0_join_an an qn op q r) (nI fn) (kvX0_join_qc qn op q r) sd) := oo_Dre hD (oo_fc (oo_fc (oo_fc (oo_fc (oo_fc (oo_fc rfl))))))
    exact mu_reti hx hb hr hlocks hP hD hS (by unfold kvX0_join; rw [if_pos c_1]) dX0_join_18
  · refine lv_iload_n hx hb dX0_join_4 rfl (lv_at hl 1 rfl) ?_
    refine lv_iconst (v := (3 : Int32)) hx hb dX0_join_5 (by decide) ?_
    refine lv_icmp_gt (tgt := 17) hx hb dX0_join_6 (by decide) (fun c_6 => ?_) (fun c_6 => ?_)
    · refine lv_iconst (v := (-1 : Int32)) hx hb dX0_join_17 (by decide) ?_
      have hP := Eq.mp (congrArg (fun z9 => va_P D vwCl (xW cJ h a1 a2 a3 a4 a5 u d lw uw an (nI fn) z9 sd) s.heap) (show nI qn = kvX0_join_qc qn op q r from (by unfold kvX0_join_qc; rw [if_neg c_1, if_pos c_6]))) hP
      have hP := Eq.mp (congrArg (fun z9 => va_P D vwCl (xW cJ h a1 a2 a3 a4 a5 u d lw uw z9 (nI fn) (kvX0_join_qc qn op q r) sd) s.heap) (show an = kvX0_join_an an qn op q r from (by unfold kvX0_join_an; rw [if_neg c_1, if_pos c_6]))) hP
      have hP : va_P D vwCl (xW cJ h a1 a2 a3 a4 a5 u d lw uw (kvX0_join_an an qn op q r) (nI fn) (kvX0_join_qc qn op q r) sd) s.heap := hP
      have hD : va_D _ (xW cJ h a1 a2 a3 a4 a5 u d lw uw (kvX0_join_an an qn op q r) (nI fn) (kvX0_join_qc qn op q r) sd) := oo_Dre hD (oo_fc (oo_fc (oo_fc (oo_fc (oo_fc (oo_fc rfl))))))
      exact mu_reti hx hb hr hlocks hP hD hS (by unfold kvX0_join; rw [if_neg c_1, if_pos c_6]) dX0_join_18
    · refine lv_aload_n hx hb dX0_join_9 rfl (lv_at hl 0 rfl) ?_
      refine lv_iload_n hx hb dX0_join_10 rfl (lv_at hl 2 rfl) ?_
      refine ro_calli (va_runV (As := [.int q]) (rest := []) ⟨hx, hb, hml, hown, hts⟩ (kX0_isQuestion l D cJ h a1 a2 a3 a4 a5 u d lw uw an fn qn sd q) (cwV 1 hts gX0_join_X0_isQuestion rfl rfl rfl ok_X0_isQuestion ⟨Nat.le_of_ble_eq_true rfl, Nat.le_of_ble_eq_true rfl⟩) ⟨oo_blind, va_recv hK hP (ci := 0) (q0 := 0) rfl rfl, oo_ps hP hK [0, 1, 2, 3, 4, 5] rfl [0] rfl⟩ rfl rfl hl.1 rfl (lv_room (Nat.le_of_ble_eq_true rfl)) dX0_join_11 ⟨Nat.le_of_ble_eq_true rfl, Nat.le_of_ble_eq_true rfl⟩) hP hS (fun H locs hP hS => ?_)
      refine lv_if_ne (tgt := 19) hx hb dX0_join_14 (by decide) (fun c_14 => ?_) (fun c_14 => ?_)
      · refine lv_iload_n hx hb dX0_join_19 rfl (lv_at hl 1 rfl) ?_
        refine lv_iconst (v := (3 : Int32)) hx hb dX0_join_20 (by decide) ?_
        refine lv_icmp_eq (tgt := 34) hx hb dX0_join_21 (by decide) (fun c_21 => ?_) (fun c_21 => ?_)
        · refine lv_aload_n hx hb dX0_join_34 rfl (lv_at hl 0 rfl) ?_
          refine ro_calli (va_runV (As := []) (rest := []) ⟨hx, hb, hml, hown, hts⟩ (kX0_isFull l D cJ h a1 a2 a3 a4 a5 u d lw uw an fn qn sd) (cwV 0 hts gX0_join_X0_isFull rfl rfl rfl ok_X0_isFull ⟨Nat.le_of_ble_eq_true rfl, Nat.le_of_ble_eq_true rfl⟩) ⟨oo_blind, va_recv hK hP (ci := 0) (q0 := 0) rfl rfl, oo_ps hP hK [0, 1, 2, 3, 4, 5] rfl [0] rfl⟩ rfl rfl hl.1 rfl (lv_room (Nat.le_of_ble_eq_true rfl)) dX0_join_35 ⟨Nat.le_of_ble_eq_true rfl, Nat.le_of_ble_eq_true rfl⟩) hP hS (fun H locs hP hS => ?_)
          refine lv_if_eq (tgt := 44) hx hb dX0_join_38 (by decide) (fun c_38 => ?_) (fun c_38 => ?_)
          · refine lv_iconst (v := nI 0) hx hb dX0_join_44 (by decide) ?_
            refine lv_istore (lv' := [(4, .int (nI 0)), (0, .ref h), (1, .int op), (2, .int q), (3, .int r)]) hx hb dX0_join_45 hl (by decide) rfl (fun ls hl => ?_)
            have hl : lv_has ls 5 [(0, .ref h), (1, .int op), (2, .int q), (3, .int r), (4, .int (nI 0))] := lv_sub hl [1, 2, 3, 4, 0] rfl
            have hP := Eq.mp (congrArg (fun z9 => va_P D vwCl (xW cJ h a1 a2 a3 a4 a5 u d lw uw z9 (nI fn) (nI qn) sd) H) (show an = kl_joinA an qn op q r 0 from (by first | (simp only [kl_joinA]; done) | (simp only [kl_joinA]; rw [if_neg c_1, if_neg c_6, if_neg c_14, if_pos c_21, if_pos c_38])))) hP
            have hP : va_P D vwCl (xW cJ h a1 a2 a3 a4 a5 u d lw uw (kl_joinA an qn op q r 0) (nI fn) (nI qn) sd) H := hP
            have hD : va_D _ (xW cJ h a1 a2 a3 a4 a5 u d lw uw (kl_joinA an qn op q r 0) (nI fn) (nI qn) sd) := oo_Dre hD (oo_fc (oo_fc (oo_fc (oo_fc (oo_fc (oo_fc rfl))))))
            refine oo_loop (N := 64) (fun n H locs ls => va_P D vwCl (xW cJ h a1 a2 a3 a4 a5 u d lw uw (kl_joinA an qn op q r n) (nI fn) (nI qn) sd) H ∧ va_D (va_A (xW cJ h a1 a2 a3 a4 a5 u d lw uw an (nI fn) (nI qn) sd) s.heap.size) (xW cJ h a1 a2 a3 a4 a5 u d lw uw (kl_joinA an qn op q r n) (nI fn) (nI qn) sd) ∧ va_S (va_A (xW cJ h a1 a2 a3 a4 a5 u d lw uw an (nI fn) (nI qn) sd) s.heap.size) s.heap H locs ∧ lv_has ls 5 [(0, .ref h), (1, .int op), (2, .int q), (3, .int r), (4, .int (nI n))]) ?_ ?_ 0 (Nat.zero_le _) ⟨hP, hD, hS, hl⟩
            · intro H locs ls hI
              obtain ⟨hP, hD, hS, hl⟩ := hI
              refine lv_iload hx hb dX0_join_47 (lv_at hl 4 rfl) ?_
              refine lv_bipush (v := nI 64) hx hb dX0_join_49 (by decide) ?_
              refine lv_icmp_ge (tgt := 84) hx hb dX0_join_51 (by decide) (fun c_51 => ?_) (fun c_51 => ?_)
              · refine lv_aload_n hx hb dX0_join_84 rfl (lv_at hl 0 rfl) ?_
                refine mu_calli (va_runV (As := []) (rest := []) ⟨hx, hb, hml, hown, hts⟩ (kX0_keepNext l D cJ h a1 a2 a3 a4 a5 u d lw uw (kl_joinA an qn op q r 64) fn qn sd _) (cwV 0 hts gX0_join_X0_keepNext rfl rfl rfl ok_X0_keepNext ⟨Nat.le_of_ble_eq_true rfl, Nat.le_of_ble_eq_true rfl⟩) ⟨oo_blindM, va_recv hK hP (ci := 0) (q0 := 0) rfl rfl, oo_psM hP hD hK [0, 1, 2, 3, 4, 5] rfl rfl [0] rfl⟩ rfl rfl hl.1 rfl (lv_room (Nat.le_of_ble_eq_true rfl)) dX0_join_85 ⟨Nat.le_of_ble_eq_true rfl, Nat.le_of_ble_eq_true rfl⟩) hP hD hS hA [0, 1, 2, 3, 4, 5] rfl (oo_fc (oo_fc (oo_fc (oo_fc (oo_fc (oo_fc rfl)))))) (fun H locs hP hD hS => ?_)
                have hP : va_P D vwCl (xW cJ h a1 a2 a3 a4 a5 u d lw uw (kl_joinA an qn op q r 64) (nI fn) (nI (qn + 1)) sd) H := hP
                have hD : va_D _ (xW cJ h a1 a2 a3 a4 a5 u d lw uw (kl_joinA an qn op q r 64) (nI fn) (nI (qn + 1)) sd) := hD
                have hP := Eq.mp (congrArg (fun z9 => va_P D vwCl (xW cJ h a1 a2 a3 a4 a5 u d lw uw (kl_joinA an qn op q r 64) (nI fn) z9 sd) H) (show nI (qn + 1) = kvX0_join_qc qn op q r from (by unfold kvX0_join_qc; rw [if_neg c_1, if_neg c_6, if_neg c_14, if_pos c_21, if_pos c_38]))) hP
                have hP := Eq.mp (congrArg (fun z9 => va_P D vwCl (xW cJ h a1 a2 a3 a4 a5 u d lw uw z9 (nI fn) (kvX0_join_qc qn op q r) sd) H) (show (kl_joinA an qn op q r 64) = kvX0_join_an an qn op q r from (by unfold kvX0_join_an; rw [if_neg c_1, if_neg c_6, if_neg c_14, if_pos c_21, if_pos c_38]))) hP
                have hP : va_P D vwCl (xW cJ h a1 a2 a3 a4 a5 u d lw uw (kvX0_join_an an qn op q r) (nI fn) (kvX0_join_qc qn op q r) sd) H := hP
                have hD : va_D _ (xW cJ h a1 a2 a3 a4 a5 u d lw uw (kvX0_join_an an qn op q r) (nI fn) (kvX0_join_qc qn op q r) sd) := oo_Dre hD (oo_fc (oo_fc (oo_fc (oo_fc (oo_fc (oo_fc rfl))))))
                exact mu_reti hx hb hr hlocks hP hD hS (by unfold kvX0_join; rw [if_neg c_1, if_neg c_6, if_neg c_14, if_pos c_21, if_pos c_38]) dX0_join_88
              · exact absurd (nI_le (Nat.le_refl _) (by omega)) c_51
            · intro n hltn ihn H locs ls hI
              obtain ⟨hP, hD, hS, hl⟩ := hI
              refine lv_iload hx hb dX0_join_47 (lv_at hl 4 rfl) ?_
              refine lv_bipush (v := nI 64) hx hb dX0_join_49 (by decide) ?_
              refine lv_icmp_ge (tgt := 84) hx hb dX0_join_51 (by decide) (fun c_51 => ?_) (fun c_51 => ?_)
              · exact absurd c_51 (nI_ge hltn (by omega))
              · refine lv_aload_n hx hb dX0_join_54 rfl (lv_at hl 0 rfl) ?_
                refine lv_iload hx hb dX0_join_55 (lv_at hl 4 rfl) ?_
                refine lv_iload_n hx hb dX0_join_57 rfl (lv_at hl 1 rfl) ?_
                refine lv_aload_n hx hb dX0_join_58 rfl (lv_at hl 0 rfl) ?_
                refine lv_iload_n hx hb dX0_join_59 rfl (lv_at hl 2 rfl) ?_
                refine lv_iload hx hb dX0_join_60 (lv_at hl 4 rfl) ?_
                refine ro_calll (va_runV (As := [.int q, .int (nI n)]) (rest := [.int op, .int (nI n), .ref h]) ⟨hx, hb, hml, hown, hts⟩ (kX0_blockOf l D cJ h a1 a2 a3 a4 a5 u d lw uw (kl_joinA an qn op q r n) fn qn sd q (nI n)) (cwV 2 hts gX0_join_X0_blockOf rfl rfl rfl ok_X0_blockOf ⟨Nat.le_of_ble_eq_true rfl, Nat.le_of_ble_eq_true rfl⟩) ⟨oo_blind, va_recv hK hP (ci := 0) (q0 := 0) rfl rfl, oo_ps hP hK [0, 1, 2, 3, 4, 5] rfl [0] rfl⟩ rfl rfl hl.1 rfl (lv_room (Nat.le_of_ble_eq_true rfl)) dX0_join_62 ⟨Nat.le_of_ble_eq_true rfl, Nat.le_of_ble_eq_true rfl⟩) hP hS (fun H locs hP hS => ?_)
                refine lv_aload_n hx hb dX0_join_65 rfl (lv_at hl 0 rfl) ?_
                refine lv_iload_n hx hb dX0_join_66 rfl (lv_at hl 3 rfl) ?_
                refine lv_iload hx hb dX0_join_67 (lv_at hl 4 rfl) ?_
                refine ro_calll (va_runV (As := [.int r, .int (nI n)]) (rest := [.long (kvX0_blockOf (kl_joinA an qn op q r n) qn q (nI n)), .int op, .int (nI n), .ref h]) ⟨hx, hb, hml, hown, hts⟩ (kX0_blockOf l D cJ h a1 a2 a3 a4 a5 u d lw uw (kl_joinA an qn op q r n) fn qn sd r (nI n)) (cwV 2 hts gX0_join_X0_blockOf rfl rfl rfl ok_X0_blockOf ⟨Nat.le_of_ble_eq_true rfl, Nat.le_of_ble_eq_true rfl⟩) ⟨oo_blind, va_recv hK hP (ci := 0) (q0 := 0) rfl rfl, oo_ps hP hK [0, 1, 2, 3, 4, 5] rfl [0] rfl⟩ rfl rfl hl.1 rfl (lv_room (Nat.le_of_ble_eq_true rfl)) dX0_join_69 ⟨Nat.le_of_ble_eq_true rfl, Nat.le_of_ble_eq_true rfl⟩) hP hS (fun H locs hP hS => ?_)
                refine ro_calll (va_runS (As := [.int op, .long (kvX0_blockOf (kl_joinA an qn op q r n) qn q (nI n)), .long (kvX0_blockOf (kl_joinA an qn op q r n) qn r (nI n))]) (rest := [.int (nI n), .ref h]) ⟨hx, hb, hml, hown, hts⟩ (kX0_joined l D op (kvX0_blockOf (kl_joinA an qn op q r n) qn q (nI n)) (kvX0_blockOf (kl_joinA an qn op q r n) qn r (nI n))) (va_cwS 3 hts gX0_join_X0_joined rfl rfl rfl ok_X0_joined ⟨Nat.le_of_ble_eq_true rfl, Nat.le_of_ble_eq_true rfl⟩) ⟨oo_blind, oo_ps hP hK [] rfl [] rfl⟩ rfl rfl hl.1 rfl (lv_room (Nat.le_of_ble_eq_true rfl)) dX0_join_72 ⟨Nat.le_of_ble_eq_true rfl, Nat.le_of_ble_eq_true rfl⟩) hP hS (fun H locs hP hS => ?_)
                refine mu_callv (va_runV (As := [.int (nI n), .long (kvX0_joined op (kvX0_blockOf (kl_joinA an qn op q r n) qn q (nI n)) (kvX0_blockOf (kl_joinA an qn op q r n) qn r (nI n)))]) (rest := []) ⟨hx, hb, hml, hown, hts⟩ (kX0_putNextBlock l D cJ h a1 a2 a3 a4 a5 u d lw uw (kl_joinA an qn op q r n) fn qn sd (nI n) (kvX0_joined op (kvX0_blockOf (kl_joinA an qn op q r n) qn q (nI n)) (kvX0_blockOf (kl_joinA an qn op q r n) qn r (nI n))) _) (cwV 2 hts gX0_join_X0_putNextBlock rfl rfl rfl ok_X0_putNextBlock ⟨Nat.le_of_ble_eq_true rfl, Nat.le_of_ble_eq_true rfl⟩) ⟨oo_blindM, va_recv hK hP (ci := 0) (q0 := 0) rfl rfl, oo_psM hP hD hK [0, 1, 2, 3, 4, 5] rfl rfl [0] rfl⟩ rfl rfl hl.1 rfl (lv_room (Nat.le_of_ble_eq_true rfl)) dX0_join_75 ⟨Nat.le_of_ble_eq_true rfl, Nat.le_of_ble_eq_true rfl⟩) hP hD hS hA [0, 1, 2, 3, 4, 5] rfl (oo_fc (oo_fc (oo_fc (oo_fc (oo_fc (oo_fc rfl)))))) (fun H locs hP hD hS => ?_)
                have hP : va_P D vwCl (xW cJ h a1 a2 a3 a4 a5 u d lw uw (kvX0_put_c0 2560 (kl_joinA an qn op q r n) (((nI qn) * (nI 64)) + (nI n)) (kvX0_joined op (kvX0_blockOf (kl_joinA an qn op q r n) qn q (nI n)) (kvX0_blockOf (kl_joinA an qn op q r n) qn r (nI n)))) (nI fn) (nI qn) sd) H := hP
                have hD : va_D _ (xW cJ h a1 a2 a3 a4 a5 u d lw uw (kvX0_put_c0 2560 (kl_joinA an qn op q r n) (((nI qn) * (nI 64)) + (nI n)) (kvX0_joined op (kvX0_blockOf (kl_joinA an qn op q r n) qn q (nI n)) (kvX0_blockOf (kl_joinA an qn op q r n) qn r (nI n)))) (nI fn) (nI qn) sd) := hD
                refine lv_iinc (v := nI (n + 1)) (lv' := [(4, .int (nI (n + 1))), (0, .ref h), (1, .int op), (2, .int q), (3, .int r)]) hx hb dX0_join_78 hl (k := 4) rfl (oo_inc n 1) (by decide) rfl (fun ls hl => ?_)
                refine lv_goto (tgt := 47) hx hb dX0_join_81 (by decide) ?_
                have hl : lv_has ls 5 [(0, .ref h), (1, .int op), (2, .int q), (3, .int r), (4, .int (nI (n + 1)))] := lv_sub hl [1, 2, 3, 4, 0] rfl
                have hP := Eq.mp (congrArg (fun z9 => va_P D vwCl (xW cJ h a1 a2 a3 a4 a5 u d lw uw z9 (nI fn) (nI qn) sd) H) (show kvX0_put_c0 2560 (kl_joinA an qn op q r n) (((nI qn) * (nI 64)) + (nI n)) (kvX0_joined op (kvX0_blockOf (kl_joinA an qn op q r n) qn q (nI n)) (kvX0_blockOf (kl_joinA an qn op q r n) qn r (nI n))) = kl_joinA an qn op q r (n + 1) from (by simp only [kl_joinA]))) hP
                have hP : va_P D vwCl (xW cJ h a1 a2 a3 a4 a5 u d lw uw (kl_joinA an qn op q r (n + 1)) (nI fn) (nI qn) sd) H := hP
                have hD : va_D _ (xW cJ h a1 a2 a3 a4 a5 u d lw uw (kl_joinA an qn op q r (n + 1)) (nI fn) (nI qn) sd) := oo_Dre hD (oo_fc (oo_fc (oo_fc (oo_fc (oo_fc (oo_fc rfl))))))
                exact ihn _ _ _ ⟨hP, hD, hS, hl⟩
          · refine lv_bipush (v := (-3 : Int32)) hx hb dX0_join_41 (by decide) ?_
            have hP := Eq.mp (congrArg (fun z9 => va_P D vwCl (xW cJ h a1 a2 a3 a4 a5 u d lw uw an (nI fn) z9 sd) H) (show nI qn = kvX0_join_qc qn op q r from (by unfold kvX0_join_qc; rw [if_neg c_1, if_neg c_6, if_neg c_14, if_pos c_21, if_neg c_38]))) hP
            have hP := Eq.mp (congrArg (fun z9 => va_P D vwCl (xW cJ h a1 a2 a3 a4 a5 u d lw uw z9 (nI fn) (kvX0_join_qc qn op q r) sd) H) (show an = kvX0_join_an an qn op q r from (by unfold kvX0_join_an; rw [if_neg c_1, if_neg c_6, if_neg c_14, if_pos c_21, if_neg c_38]))) hP
            have hP : va_P D vwCl (xW cJ h a1 a2 a3 a4 a5 u d lw uw (kvX0_join_an an qn op q r) (nI fn) (kvX0_join_qc qn op q r) sd) H := hP
            have hD : va_D _ (xW cJ h a1 a2 a3 a4 a5 u d lw uw (kvX0_join_an an qn op q r) (nI fn) (kvX0_join_qc qn op q r) sd) := oo_Dre hD (oo_fc (oo_fc (oo_fc (oo_fc (oo_fc (oo_fc rfl))))))
            exact mu_reti hx hb hr hlocks hP hD hS (by unfold kvX0_join; rw [if_neg c_1, if_neg c_6, if_neg c_14, if_pos c_21, if_neg c_38]) dX0_join_43
        · refine lv_aload_n hx hb dX0_join_24 rfl (lv_at hl 0 rfl) ?_
          refine lv_iload_n hx hb dX0_join_25 rfl (lv_at hl 3 rfl) ?_
          refine ro_calli (va_runV (As := [.int r]) (rest := []) ⟨hx, hb, hml, hown, hts⟩ (kX0_isQuestion l D cJ h a1 a2 a3 a4 a5 u d lw uw an fn qn sd r) (cwV 1 hts gX0_join_X0_isQuestion rfl rfl rfl ok_X0_isQuestion ⟨Nat.le_of_ble_eq_true rfl, Nat.le_of_ble_eq_true rfl⟩) ⟨oo_blind, va_recv hK hP (ci := 0) (q0 := 0) rfl rfl, oo_ps hP hK [0, 1, 2, 3, 4, 5] rfl [0] rfl⟩ rfl rfl hl.1 rfl (lv_room (Nat.le_of_ble_eq_true rfl)) dX0_join_26 ⟨Nat.le_of_ble_eq_true rfl, Nat.le_of_ble_eq_true rfl⟩) hP hS (fun H locs hP hS => ?_)
          refine lv_if_ne (tgt := 34) hx hb dX0_join_29 (by decide) (fun c_29 => ?_) (fun c_29 => ?_)
          · refine lv_aload_n hx hb dX0_join_34 rfl (lv_at hl 0 rfl) ?_
            refine ro_calli (va_runV (As := []) (rest := []) ⟨hx, hb, hml, hown, hts⟩ (kX0_isFull l D cJ h a1 a2 a3 a4 a5 u d lw uw an fn qn sd) (cwV 0 hts gX0_join_X0_isFull rfl rfl rfl ok_X0_isFull ⟨Nat.le_of_ble_eq_true rfl, Nat.le_of_ble_eq_true rfl⟩) ⟨oo_blind, va_recv hK hP (ci := 0) (q0 := 0) rfl rfl, oo_ps hP hK [0, 1, 2, 3, 4, 5] rfl [0] rfl⟩ rfl rfl hl.1 rfl (lv_room (Nat.le_of_ble_eq_true rfl)) dX0_join_35 ⟨Nat.le_of_ble_eq_true rfl, Nat.le_of_ble_eq_true rfl⟩) hP hS (fun H locs hP hS => ?_)
            refine lv_if_eq (tgt := 44) hx hb dX0_join_38 (by decide) (fun c_38 => ?_) (fun c_38 => ?_)
            · refine lv_iconst (v := nI 0) hx hb dX0_join_44 (by decide) ?_
              refine lv_istore (lv' := [(4, .int (nI 0)), (0, .ref h), (1, .int op), (2, .int q), (3, .int r)]) hx hb dX0_join_45 hl (by decide) rfl (fun ls hl => ?_)
              have hl : lv_has ls 5 [(0, .ref h), (1, .int op), (2, .int q), (3, .int r), (4, .int (nI 0))] := lv_sub hl [1, 2, 3, 4, 0] rfl
              have hP := Eq.mp (congrArg (fun z9 => va_P D vwCl (xW cJ h a1 a2 a3 a4 a5 u d lw uw z9 (nI fn) (nI qn) sd) H) (show an = kl_joinA an qn op q r 0 from (by first | (simp only [kl_joinA]; done) | (simp only [kl_joinA]; rw [if_neg c_1, if_neg c_6, if_neg c_14, if_neg c_21, if_neg c_29, if_pos c_38])))) hP
              have hP : va_P D vwCl (xW cJ h a1 a2 a3 a4 a5 u d lw uw (kl_joinA an qn op q r 0) (nI fn) (nI qn) sd) H := hP
              have hD : va_D _ (xW cJ h a1 a2 a3 a4 a5 u d lw uw (kl_joinA an qn op q r 0) (nI fn) (nI qn) sd) := oo_Dre hD (oo_fc (oo_fc (oo_fc (oo_fc (oo_fc (oo_fc rfl))))))
              refine oo_loop (N := 64) (fun n H locs ls => va_P D vwCl (xW cJ h a1 a2 a3 a4 a5 u d lw uw (kl_joinA an qn op q r n) (nI fn) (nI qn) sd) H ∧ va_D (va_A (xW cJ h a1 a2 a3 a4 a5 u d lw uw an (nI fn) (nI qn) sd) s.heap.size) (xW cJ h a1 a2 a3 a4 a5 u d lw uw (kl_joinA an qn op q r n) (nI fn) (nI qn) sd) ∧ va_S (va_A (xW cJ h a1 a2 a3 a4 a5 u d lw uw an (nI fn) (nI qn) sd) s.heap.size) s.heap H locs ∧ lv_has ls 5 [(0, .ref h), (1, .int op), (2, .int q), (3, .int r), (4, .int (nI n))]) ?_ ?_ 0 (Nat.zero_le _) ⟨hP, hD, hS, hl⟩
              · intro H locs ls hI
                obtain ⟨hP, hD, hS, hl⟩ := hI
                refine lv_iload hx hb dX0_join_47 (lv_at hl 4 rfl) ?_
                refine lv_bipush (v := nI 64) hx hb dX0_join_49 (by decide) ?_
                refine lv_icmp_ge (tgt := 84) hx hb dX0_join_51 (by decide) (fun c_51 => ?_) (fun c_51 => ?_)
                · refine lv_aload_n hx hb dX0_join_84 rfl (lv_at hl 0 rfl) ?_
                  refine mu_calli (va_runV (As := []) (rest := []) ⟨hx, hb, hml, hown, hts⟩ (kX0_keepNext l D cJ h a1 a2 a3 a4 a5 u d lw uw (kl_joinA an qn op q r 64) fn qn sd _) (cwV 0 hts gX0_join_X0_keepNext rfl rfl rfl ok_X0_keepNext ⟨Nat.le_of_ble_eq_true rfl, Nat.le_of_ble_eq_true rfl⟩) ⟨oo_blindM, va_recv hK hP (ci := 0) (q0 := 0) rfl rfl, oo_psM hP hD hK [0, 1, 2, 3, 4, 5] rfl rfl [0] rfl⟩ rfl rfl hl.1 rfl (lv_room (Nat.le_of_ble_eq_true rfl)) dX0_join_85 ⟨Nat.le_of_ble_eq_true rfl, Nat.le_of_ble_eq_true rfl⟩) hP hD hS hA [0, 1, 2, 3, 4, 5] rfl (oo_fc (oo_fc (oo_fc (oo_fc (oo_fc (oo_fc rfl)))))) (fun H locs hP hD hS => ?_)
                  have hP : va_P D vwCl (xW cJ h a1 a2 a3 a4 a5 u d lw uw (kl_joinA an qn op q r 64) (nI fn) (nI (qn + 1)) sd) H := hP
                  have hD : va_D _ (xW cJ h a1 a2 a3 a4 a5 u d lw uw (kl_joinA an qn op q r 64) (nI fn) (nI (qn + 1)) sd) := hD
                  have hP := Eq.mp (congrArg (fun z9 => va_P D vwCl (xW cJ h a1 a2 a3 a4 a5 u d lw uw (kl_joinA an qn op q r 64) (nI fn) z9 sd) H) (show nI (qn + 1) = kvX0_join_qc qn op q r from (by unfold kvX0_join_qc; rw [if_neg c_1, if_neg c_6, if_neg c_14, if_neg c_21, if_neg c_29, if_pos c_38]))) hP
                  have hP := Eq.mp (congrArg (fun z9 => va_P D vwCl (xW cJ h a1 a2 a3 a4 a5 u d lw uw z9 (nI fn) (kvX0_join_qc qn op q r) sd) H) (show (kl_joinA an qn op q r 64) = kvX0_join_an an qn op q r from (by unfold kvX0_join_an; rw [if_neg c_1, if_neg c_6, if_neg c_14, if_neg c_21, if_neg c_29, if_pos c_38]))) hP
                  have hP : va_P D vwCl (xW cJ h a1 a2 a3 a4 a5 u d lw uw (kvX0_join_an an qn op q r) (nI fn) (kvX0_join_qc qn op q r) sd) H := hP
                  have hD : va_D _ (xW cJ h a1 a2 a3 a4 a5 u d lw uw (kvX0_join_an an qn op q r) (nI fn) (kvX0_join_qc qn op q r) sd) := oo_Dre hD (oo_fc (oo_fc (oo_fc (oo_fc (oo_fc (oo_fc rfl))))))
                  exact mu_reti hx hb hr hlocks hP hD hS (by unfold kvX0_join; rw [if_neg c_1, if_neg c_6, if_neg c_14, if_neg c_21, if_neg c_29, if_pos c_38]) dX0_join_88
                · exact absurd (nI_le (Nat.le_refl _) (by omega)) c_51
              · intro n hltn ihn H locs ls hI
                obtain ⟨hP, hD, hS, hl⟩ := hI
                refine lv_iload hx hb dX0_join_47 (lv_at hl 4 rfl) ?_
                refine lv_bipush (v := nI 64) hx hb dX0_join_49 (by decide) ?_
                refine lv_icmp_ge (tgt := 84) hx hb dX0_join_51 (by decide) (fun c_51 => ?_) (fun c_51 => ?_)
                · exact absurd c_51 (nI_ge hltn (by omega))
                · refine lv_aload_n hx hb dX0_join_54 rfl (lv_at hl 0 rfl) ?_
                  refine lv_iload hx hb dX0_join_55 (lv_at hl 4 rfl) ?_
                  refine lv_iload_n hx hb dX0_join_57 rfl (lv_at hl 1 rfl) ?_
                  refine lv_aload_n hx hb dX0_join_58 rfl (lv_at hl 0 rfl) ?_
                  refine lv_iload_n hx hb dX0_join_59 rfl (lv_at hl 2 rfl) ?_
                  refine lv_iload hx hb dX0_join_60 (lv_at hl 4 rfl) ?_
                  refine ro_calll (va_runV (As := [.int q, .int (nI n)]) (rest := [.int op, .int (nI n), .ref h]) ⟨hx, hb, hml, hown, hts⟩ (kX0_blockOf l D cJ h a1 a2 a3 a4 a5 u d lw uw (kl_joinA an qn op q r n) fn qn sd q (nI n)) (cwV 2 hts gX0_join_X0_blockOf rfl rfl rfl ok_X0_blockOf ⟨Nat.le_of_ble_eq_true rfl, Nat.le_of_ble_eq_true rfl⟩) ⟨oo_blind, va_recv hK hP (ci := 0) (q0 := 0) rfl rfl, oo_ps hP hK [0, 1, 2, 3, 4, 5] rfl [0] rfl⟩ rfl rfl hl.1 rfl (lv_room (Nat.le_of_ble_eq_true rfl)) dX0_join_62 ⟨Nat.le_of_ble_eq_true rfl, Nat.le_of_ble_eq_true rfl⟩) hP hS (fun H locs hP hS => ?_)
                  refine lv_aload_n hx hb dX0_join_65 rfl (lv_at hl 0 rfl) ?_
                  refine lv_iload_n hx hb dX0_join_66 rfl (lv_at hl 3 rfl) ?_
                  refine lv_iload hx hb dX0_join_67 (lv_at hl 4 rfl) ?_
                  refine ro_calll (va_runV (As := [.int r, .int (nI n)]) (rest := [.long (kvX0_blockOf (kl_joinA an qn op q r n) qn q (nI n)), .int op, .int (nI n), .ref h]) ⟨hx, hb, hml, hown, hts⟩ (kX0_blockOf l D cJ h a1 a2 a3 a4 a5 u d lw uw (kl_joinA an qn op q r n) fn qn sd r (nI n)) (cwV 2 hts gX0_join_X0_blockOf rfl rfl rfl ok_X0_blockOf ⟨Nat.le_of_ble_eq_true rfl, Nat.le_of_ble_eq_true rfl⟩) ⟨oo_blind, va_recv hK hP (ci := 0) (q0 := 0) rfl rfl, oo_ps hP hK [0, 1, 2, 3, 4, 5] rfl [0] rfl⟩ rfl rfl hl.1 rfl (lv_room (Nat.le_of_ble_eq_true rfl)) dX0_join_69 ⟨Nat.le_of_ble_eq_true rfl, Nat.le_of_ble_eq_true rfl⟩) hP hS (fun H locs hP hS => ?_)
                  refine ro_calll (va_runS (As := [.int op, .long (kvX0_blockOf (kl_joinA an qn op q r n) qn q (nI n)), .long (kvX0_blockOf (kl_joinA an qn op q r n) qn r (nI n))]) (rest := [.int (nI n), .ref h]) ⟨hx, hb, hml, hown, hts⟩ (kX0_joined l D op (kvX0_blockOf (kl_joinA an qn op q r n) qn q (nI n)) (kvX0_blockOf (kl_joinA an qn op q r n) qn r (nI n))) (va_cwS 3 hts gX0_join_X0_joined rfl rfl rfl ok_X0_joined ⟨Nat.le_of_ble_eq_true rfl, Nat.le_of_ble_eq_true rfl⟩) ⟨oo_blind, oo_ps hP hK [] rfl [] rfl⟩ rfl rfl hl.1 rfl (lv_room (Nat.le_of_ble_eq_true rfl)) dX0_join_72 ⟨Nat.le_of_ble_eq_true rfl, Nat.le_of_ble_eq_true rfl⟩) hP hS (fun H locs hP hS => ?_)
                  refine mu_callv (va_runV (As := [.int (nI n), .long (kvX0_joined op (kvX0_blockOf (kl_joinA an qn op q r n) qn q (nI n)) (kvX0_blockOf (kl_joinA an qn op q r n) qn r (nI n)))]) (rest := []) ⟨hx, hb, hml, hown, hts⟩ (kX0_putNextBlock l D cJ h a1 a2 a3 a4 a5 u d lw uw (kl_joinA an qn op q r n) fn qn sd (nI n) (kvX0_joined op (kvX0_blockOf (kl_joinA an qn op q r n) qn q (nI n)) (kvX0_blockOf (kl_joinA an qn op q r n) qn r (nI n))) _) (cwV 2 hts gX0_join_X0_putNextBlock rfl rfl rfl ok_X0_putNextBlock ⟨Nat.le_of_ble_eq_true rfl, Nat.le_of_ble_eq_true rfl⟩) ⟨oo_blindM, va_recv hK hP (ci := 0) (q0 := 0) rfl rfl, oo_psM hP hD hK [0, 1, 2, 3, 4, 5] rfl rfl [0] rfl⟩ rfl rfl hl.1 rfl (lv_room (Nat.le_of_ble_eq_true rfl)) dX0_join_75 ⟨Nat.le_of_ble_eq_true rfl, Nat.le_of_ble_eq_true rfl⟩) hP hD hS hA [0, 1, 2, 3, 4, 5] rfl (oo_fc (oo_fc (oo_fc (oo_fc (oo_fc (oo_fc rfl)))))) (fun H locs hP hD hS => ?_)
                  have hP : va_P D vwCl (xW cJ h a1 a2 a3 a4 a5 u d lw uw (kvX0_put_c0 2560 (kl_joinA an qn op q r n) (((nI qn) * (nI 64)) + (nI n)) (kvX0_joined op (kvX0_blockOf (kl_joinA an qn op q r n) qn q (nI n)) (kvX0_blockOf (kl_joinA an qn op q r n) qn r (nI n)))) (nI fn) (nI qn) sd) H := hP
                  have hD : va_D _ (xW cJ h a1 a2 a3 a4 a5 u d lw uw (kvX0_put_c0 2560 (kl_joinA an qn op q r n) (((nI qn) * (nI 64)) + (nI n)) (kvX0_joined op (kvX0_blockOf (kl_joinA an qn op q r n) qn q (nI n)) (kvX0_blockOf (kl_joinA an qn op q r n) qn r (nI n)))) (nI fn) (nI qn) sd) := hD
                  refine lv_iinc (v := nI (n + 1)) (lv' := [(4, .int (nI (n + 1))), (0, .ref h), (1, .int op), (2, .int q), (3, .int r)]) hx hb dX0_join_78 hl (k := 4) rfl (oo_inc n 1) (by decide) rfl (fun ls hl => ?_)
                  refine lv_goto (tgt := 47) hx hb dX0_join_81 (by decide) ?_
                  have hl : lv_has ls 5 [(0, .ref h), (1, .int op), (2, .int q), (3, .int r), (4, .int (nI (n + 1)))] := lv_sub hl [1, 2, 3, 4, 0] rfl
                  have hP := Eq.mp (congrArg (fun z9 => va_P D vwCl (xW cJ h a1 a2 a3 a4 a5 u d lw uw z9 (nI fn) (nI qn) sd) H) (show kvX0_put_c0 2560 (kl_joinA an qn op q r n) (((nI qn) * (nI 64)) + (nI n)) (kvX0_joined op (kvX0_blockOf (kl_joinA an qn op q r n) qn q (nI n)) (kvX0_blockOf (kl_joinA an qn op q r n) qn r (nI n))) = kl_joinA an qn op q r (n + 1) from (by simp only [kl_joinA]))) hP
                  have hP : va_P D vwCl (xW cJ h a1 a2 a3 a4 a5 u d lw uw (kl_joinA an qn op q r (n + 1)) (nI fn) (nI qn) sd) H := hP
                  have hD : va_D _ (xW cJ h a1 a2 a3 a4 a5 u d lw uw (kl_joinA an qn op q r (n + 1)) (nI fn) (nI qn) sd) := oo_Dre hD (oo_fc (oo_fc (oo_fc (oo_fc (oo_fc (oo_fc rfl))))))
                  exact ihn _ _ _ ⟨hP, hD, hS, hl⟩
            · refine lv_bipush (v := (-3 : Int32)) hx hb dX0_join_41 (by decide) ?_
              have hP := Eq.mp (congrArg (fun z9 => va_P D vwCl (xW cJ h a1 a2 a3 a4 a5 u d lw uw an (nI fn) z9 sd) H) (show nI qn = kvX0_join_qc qn op q r from (by unfold kvX0_join_qc; rw [if_neg c_1, if_neg c_6, if_neg c_14, if_neg c_21, if_neg c_29, if_neg c_38]))) hP
              have hP := Eq.mp (congrArg (fun z9 => va_P D vwCl (xW cJ h a1 a2 a3 a4 a5 u d lw uw z9 (nI fn) (kvX0_join_qc qn op q r) sd) H) (show an = kvX0_join_an an qn op q r from (by unfold kvX0_join_an; rw [if_neg c_1, if_neg c_6, if_neg c_14, if_neg c_21, if_neg c_29, if_neg c_38]))) hP
              have hP : va_P D vwCl (xW cJ h a1 a2 a3 a4 a5 u d lw uw (kvX0_join_an an qn op q r) (nI fn) (kvX0_join_qc qn op q r) sd) H := hP
              have hD : va_D _ (xW cJ h a1 a2 a3 a4 a5 u d lw uw (kvX0_join_an an qn op q r) (nI fn) (kvX0_join_qc qn op q r) sd) := oo_Dre hD (oo_fc (oo_fc (oo_fc (oo_fc (oo_fc (oo_fc rfl))))))
              exact mu_reti hx hb hr hlocks hP hD hS (by unfold kvX0_join; rw [if_neg c_1, if_neg c_6, if_neg c_14, if_neg c_21, if_neg c_29, if_neg c_38]) dX0_join_43
          · refine lv_iconst (v := (-1 : Int32)) hx hb dX0_join_32 (by decide) ?_
            have hP := Eq.mp (congrArg (fun z9 => va_P D vwCl (xW cJ h a1 a2 a3 a4 a5 u d lw uw an (nI fn) z9 sd) H) (show nI qn = kvX0_join_qc qn op q r from (by unfold kvX0_join_qc; rw [if_neg c_1, if_neg c_6, if_neg c_14, if_neg c_21, if_pos c_29]))) hP
            have hP := Eq.mp (congrArg (fun z9 => va_P D vwCl (xW cJ h a1 a2 a3 a4 a5 u d lw uw z9 (nI fn) (kvX0_join_qc qn op q r) sd) H) (show an = kvX0_join_an an qn op q r from (by unfold kvX0_join_an; rw [if_neg c_1, if_neg c_6, if_neg c_14, if_neg c_21, if_pos c_29]))) hP
            have hP : va_P D vwCl (xW cJ h a1 a2 a3 a4 a5 u d lw uw (kvX0_join_an an qn op q r) (nI fn) (kvX0_join_qc qn op q r) sd) H := hP
            have hD : va_D _ (xW cJ h a1 a2 a3 a4 a5 u d lw uw (kvX0_join_an an qn op q r) (nI fn) (kvX0_join_qc qn op q r) sd) := oo_Dre hD (oo_fc (oo_fc (oo_fc (oo_fc (oo_fc (oo_fc rfl))))))
            exact mu_reti hx hb hr hlocks hP hD hS (by unfold kvX0_join; rw [if_neg c_1, if_neg c_6, if_neg c_14, if_neg c_21, if_pos c_29]) dX0_join_33
      · refine lv_iconst (v := (-1 : Int32)) hx hb dX0_join_17 (by decide) ?_
        have hP := Eq.mp (congrArg (fun z9 => va_P D vwCl (xW cJ h a1 a2 a3 a4 a5 u d lw uw an (nI fn) z9 sd) H) (show nI qn = kvX0_join_qc qn op q r from (by unfold kvX0_join_qc; rw [if_neg c_1, if_neg c_6, if_pos c_14]))) hP
        have hP := Eq.mp (congrArg (fun z9 => va_P D vwCl (xW cJ h a1 a2 a3 a4 a5 u d lw uw z9 (nI fn) (kvX0_join_qc qn op q r) sd) H) (show an = kvX0_join_an an qn op q r from (by unfold kvX0_join_an; rw [if_neg c_1, if_neg c_6, if_pos c_14]))) hP
        have hP : va_P D vwCl (xW cJ h a1 a2 a3 a4 a5 u d lw uw (kvX0_join_an an qn op q r) (nI fn) (kvX0_join_qc qn op q r) sd) H := hP
        have hD : va_D _ (xW cJ h a1 a2 a3 a4 a5 u d lw uw (kvX0_join_an an qn op q r) (nI fn) (kvX0_join_qc qn op q r) sd) := oo_Dre hD (oo_fc (oo_fc (oo_fc (oo_fc (oo_fc (oo_fc rfl))))))
        exact mu_reti hx hb hr hlocks hP hD hS (by unfold kvX0_join; rw [if_neg c_1, if_neg c_6, if_pos c_14]) dX0_join_18
end
section
theorem ok_X0_holds : yX0_holds.cls = RX0 ∧ yX0_holds.cls ≠ "java/lang/invoke/MethodHandle" ∧ yX0_holds.cls ≠ "java/lang/invoke/VarHandle" ∧ (parseMethodDescriptor yX0_holds.desc).map (fun d => d.parameters.length) = some 2 := by decide +kernel
def kvX0_holds (an : Nat → Int64) (fn : Nat) (qn : Nat) (q : Int32) (w : Int32) : Int32 := if (kvX0_isQuestion qn q) = 0 then (-1 : Int32) else (if (kvX0_isTrue an qn q (w &&& (kvX0_allFacts fn))) = 0 then (0 : Int32) else (1 : Int32))
set_option maxHeartbeats 4000000 in
set_option maxRecDepth 100000 in
theorem kX0_holds (l : Launch) (D : va_G) (cJ : ClassId) (h a1 a2 a3 a4 a5 : Nat) (u d lw uw an : Nat → Int64) (fn qn : Nat) (sd : Int64) (q : Int32) (w : Int32) : RoI l yX0_holds wsX0_holds ({ frames := 3, cells := 0, slots := 0, locals := 67 } : Room) [.ref h, .int q, .int w] D (xW cJ h a1 a2 a3 a4 a5 u d lw uw an (nI fn) (nI qn) sd) [(cJ, .long)] (kvX0_holds an fn qn q w) := by
  refine oo_head (C := RX0) (cc := cX0_holds) (maxL := 3) (ret := (some .int)) (by decide) rfl rfl (Nat.le_of_ble_eq_true rfl) ?_
  intro p e s m below meth c hx hb hr hlocks hml hown hnm hts hpre ls hl
  have hl : lv_has ls 3 [(0, .ref h), (1, .int q), (2, .int w)] := hl
  obtain ⟨hP, hK⟩ := hpre
  have hS : va_S oo_N s.heap s.heap [] := va_S.rf
  have hin : ∀ w ∈ wsX00, w ∈ wsX0_holds := fun w h => List.mem_cons_of_mem _ (List.mem_append_right _ h)
  refine lv_aload_n hx hb dX0_holds_0 rfl (lv_at hl 0 rfl) ?_
  refine lv_iload_n hx hb dX0_holds_1 rfl (lv_at hl 1 rfl) ?_
  refine ro_calli (va_runV (As := [.int q]) (rest := []) ⟨hx, hb, hml, hown, hts⟩ (kX0_isQuestion l D cJ h a1 a2 a3 a4 a5 u d lw uw an fn qn sd q) (cwV 1 hts gX0_holds_X0_isQuestion rfl rfl rfl ok_X0_isQuestion ⟨Nat.le_of_ble_eq_true rfl, Nat.le_of_ble_eq_true rfl⟩) ⟨oo_blind, va_recv hK hP (ci := 0) (q0 := 0) rfl rfl, oo_ps hP hK [0, 1, 2, 3, 4, 5] rfl [0] rfl⟩ rfl rfl hl.1 rfl (lv_room (Nat.le_of_ble_eq_true rfl)) dX0_holds_2 ⟨Nat.le_of_ble_eq_true rfl, Nat.le_of_ble_eq_true rfl⟩) hP hS (fun H locs hP hS => ?_)
  refine lv_if_ne (tgt := 10) hx hb dX0_holds_5 (by decide) (fun c_5 => ?_) (fun c_5 => ?_)
  · refine lv_aload_n hx hb dX0_holds_10 rfl (lv_at hl 0 rfl) ?_
    refine lv_iload_n hx hb dX0_holds_11 rfl (lv_at hl 1 rfl) ?_
    refine lv_iload_n hx hb dX0_holds_12 rfl (lv_at hl 2 rfl) ?_
    refine lv_aload_n hx hb dX0_holds_13 rfl (lv_at hl 0 rfl) ?_
    refine ro_calli (va_runV (As := []) (rest := [.int w, .int q, .ref h]) ⟨hx, hb, hml, hown, hts⟩ (kX0_allFacts l D cJ h a1 a2 a3 a4 a5 u d lw uw an fn qn sd) (cwV 0 hts gX0_holds_X0_allFacts rfl rfl rfl ok_X0_allFacts ⟨Nat.le_of_ble_eq_true rfl, Nat.le_of_ble_eq_true rfl⟩) ⟨oo_blind, va_recv hK hP (ci := 0) (q0 := 0) rfl rfl, oo_ps hP hK [0, 1, 2, 3, 4, 5] rfl [0] rfl⟩ rfl rfl hl.1 rfl (lv_room (Nat.le_of_ble_eq_true rfl)) dX0_holds_14 ⟨Nat.le_of_ble_eq_true rfl, Nat.le_of_ble_eq_true rfl⟩) hP hS (fun H locs hP hS => ?_)
    refine lv_iand hx hb dX0_holds_17 ?_
    refine ro_calli (va_runV (As := [.int q, .int (w &&& (kvX0_allFacts fn))]) (rest := []) ⟨hx, hb, hml, hown, hts⟩ (kX0_isTrue l D cJ h a1 a2 a3 a4 a5 u d lw uw an fn qn sd q (w &&& (kvX0_allFacts fn))) (cwV 2 hts gX0_holds_X0_isTrue rfl rfl rfl ok_X0_isTrue ⟨Nat.le_of_ble_eq_true rfl, Nat.le_of_ble_eq_true rfl⟩) ⟨oo_blind, va_recv hK hP (ci := 0) (q0 := 0) rfl rfl, oo_ps hP hK [0, 1, 2, 3, 4, 5] rfl [0] rfl⟩ rfl rfl hl.1 rfl (lv_room (Nat.le_of_ble_eq_true rfl)) dX0_holds_18 ⟨Nat.le_of_ble_eq_true rfl, Nat.le_of_ble_eq_true rfl⟩) hP hS (fun H locs hP hS => ?_)
    refine lv_if_eq (tgt := 28) hx hb dX0_holds_21 (by decide) (fun c_21 => ?_) (fun c_21 => ?_)
    · refine lv_iconst (v := (0 : Int32)) hx hb dX0_holds_28 (by decide) ?_
      exact ro_reti hx hb hr hlocks hS (by unfold kvX0_holds; rw [if_neg c_5, if_pos c_21]) dX0_holds_29
    · refine lv_iconst (v := (1 : Int32)) hx hb dX0_holds_24 (by decide) ?_
      refine lv_goto (tgt := 29) hx hb dX0_holds_25 (by decide) ?_
      exact ro_reti hx hb hr hlocks hS (by unfold kvX0_holds; rw [if_neg c_5, if_neg c_21]) dX0_holds_29
  · refine lv_iconst (v := (-1 : Int32)) hx hb dX0_holds_8 (by decide) ?_
    exact ro_reti hx hb hr hlocks hS (by unfold kvX0_holds; rw [if_pos c_5]) dX0_holds_9
theorem ok_X0_chance : yX0_chance.cls = RX0 ∧ yX0_chance.cls ≠ "java/lang/invoke/MethodHandle" ∧ yX0_chance.cls ≠ "java/lang/invoke/VarHandle" ∧ (parseMethodDescriptor yX0_chance.desc).map (fun d => d.parameters.length) = some 2 := by decide +kernel
def kvX0_chance (d : Nat → Int64) (lw : Nat → Int64) (uw : Nat → Int64) (an : Nat → Int64) (fn : Nat) (qn : Nat) (q : Int32) (pt : Int32) : Int64 := if (kvX0_isQuestion qn q) = 0 then (-1 : Int64) else (if (kvX0_isPart pt) = 0 then (-1 : Int64) else (kvX0_lowestPart (kvX0_sumOfBoth lw uw an qn q q) (kvX0_allBut d fn (-1 : Int32)) pt))
set_option maxHeartbeats 4000000 in
set_option maxRecDepth 100000 in
theorem kX0_chance (l : Launch) (D : va_G) (cJ : ClassId) (h a1 a2 a3 a4 a5 : Nat) (u d lw uw an : Nat → Int64) (fn qn : Nat) (sd : Int64) (q : Int32) (pt : Int32) (hfn : fn ≤ 12) : RoL l yX0_chance wsX0_chance ({ frames := 3, cells := 0, slots := 0, locals := 74 } : Room) [.ref h, .int q, .int pt] D (xW cJ h a1 a2 a3 a4 a5 u d lw uw an (nI fn) (nI qn) sd) [(cJ, .long)] (kvX0_chance d lw uw an fn qn q pt) := by
  refine oo_head (C := RX0) (cc := cX0_chance) (maxL := 3) (ret := (some .long)) (by decide) rfl rfl (Nat.le_of_ble_eq_true rfl) ?_
  intro p e s m below meth c hx hb hr hlocks hml hown hnm hts hpre ls hl
  have hl : lv_has ls 3 [(0, .ref h), (1, .int q), (2, .int pt)] := hl
  obtain ⟨hP, hK⟩ := hpre
  have hS : va_S oo_N s.heap s.heap [] := va_S.rf
  have hin : ∀ w ∈ wsX00, w ∈ wsX0_chance := fun w h => List.mem_cons_of_mem _ (List.mem_append_right _ h)
  refine lv_aload_n hx hb dX0_chance_0 rfl (lv_at hl 0 rfl) ?_
  refine lv_iload_n hx hb dX0_chance_1 rfl (lv_at hl 1 rfl) ?_
  refine ro_calli (va_runV (As := [.int q]) (rest := []) ⟨hx, hb, hml, hown, hts⟩ (kX0_isQuestion l D cJ h a1 a2 a3 a4 a5 u d lw uw an fn qn sd q) (cwV 1 hts gX0_chance_X0_isQuestion rfl rfl rfl ok_X0_isQuestion ⟨Nat.le_of_ble_eq_true rfl, Nat.le_of_ble_eq_true rfl⟩) ⟨oo_blind, va_recv hK hP (ci := 0) (q0 := 0) rfl rfl, oo_ps hP hK [0, 1, 2, 3, 4, 5] rfl [0] rfl⟩ rfl rfl hl.1 rfl (lv_room (Nat.le_of_ble_eq_true rfl)) dX0_chance_2 ⟨Nat.le_of_ble_eq_true rfl, Nat.le_of_ble_eq_true rfl⟩) hP hS (fun H locs hP hS => ?_)
  refine lv_if_eq (tgt := 15) hx hb dX0_chance_5 (by decide) (fun c_5 => ?_) (fun c_5 => ?_)
  · refine lv_ldc2 hx hb hown (hts (.constantLong RX0 98 (-1)) (by decide +kernel)) dX0_chance_15 ?_
    exact ro_retl hx hb hr hlocks hS (by unfold kvX0_chance; rw [if_pos c_5]) dX0_chance_18
  · refine lv_iload_n hx hb dX0_chance_8 rfl (lv_at hl 2 rfl) ?_
    refine ro_calli (va_runS (As := [.int pt]) (rest := []) ⟨hx, hb, hml, hown, hts⟩ (kX0_isPart l D pt) (va_cwS 1 hts gX0_chance_X0_isPart rfl rfl rfl ok_X0_isPart ⟨Nat.le_of_ble_eq_true rfl, Nat.le_of_ble_eq_true rfl⟩) ⟨oo_blind, oo_ps hP hK [] rfl [] rfl⟩ rfl rfl hl.1 rfl (lv_room (Nat.le_of_ble_eq_true rfl)) dX0_chance_9 ⟨Nat.le_of_ble_eq_true rfl, Nat.le_of_ble_eq_true rfl⟩) hP hS (fun H locs hP hS => ?_)
    refine lv_if_ne (tgt := 19) hx hb dX0_chance_12 (by decide) (fun c_12 => ?_) (fun c_12 => ?_)
    · refine lv_aload_n hx hb dX0_chance_19 rfl (lv_at hl 0 rfl) ?_
      refine lv_iload_n hx hb dX0_chance_20 rfl (lv_at hl 1 rfl) ?_
      refine lv_iload_n hx hb dX0_chance_21 rfl (lv_at hl 1 rfl) ?_
      refine ro_calll (va_runV (As := [.int q, .int q]) (rest := []) ⟨hx, hb, hml, hown, hts⟩ (kX0_sumOfBoth l D cJ h a1 a2 a3 a4 a5 u d lw uw an fn qn sd q q) (cwV 2 hts gX0_chance_X0_sumOfBoth rfl rfl rfl ok_X0_sumOfBoth ⟨Nat.le_of_ble_eq_true rfl, Nat.le_of_ble_eq_true rfl⟩) ⟨oo_blind, va_recv hK hP (ci := 0) (q0 := 0) rfl rfl, oo_ps hP hK [0, 1, 2, 3, 4, 5] rfl [0] rfl⟩ rfl rfl hl.1 rfl (lv_room (Nat.le_of_ble_eq_true rfl)) dX0_chance_22 ⟨Nat.le_of_ble_eq_true rfl, Nat.le_of_ble_eq_true rfl⟩) hP hS (fun H locs hP hS => ?_)
      refine lv_aload_n hx hb dX0_chance_25 rfl (lv_at hl 0 rfl) ?_
      refine lv_iconst (v := (-1 : Int32)) hx hb dX0_chance_26 (by decide) ?_
      refine ro_calll (va_runV (As := [.int (-1 : Int32)]) (rest := [.long (kvX0_sumOfBoth lw uw an qn q q)]) ⟨hx, hb, hml, hown, hts⟩ (kX0_allBut l D cJ h a1 a2 a3 a4 a5 u d lw uw an fn qn sd (-1 : Int32) hfn) (cwV 1 hts gX0_chance_X0_allBut rfl rfl rfl ok_X0_allBut ⟨Nat.le_of_ble_eq_true rfl, Nat.le_of_ble_eq_true rfl⟩) ⟨oo_blind, va_recv hK hP (ci := 0) (q0 := 0) rfl rfl, oo_ps hP hK [0, 1, 2, 3, 4, 5] rfl [0] rfl⟩ rfl rfl hl.1 rfl (lv_room (Nat.le_of_ble_eq_true rfl)) dX0_chance_27 ⟨Nat.le_of_ble_eq_true rfl, Nat.le_of_ble_eq_true rfl⟩) hP hS (fun H locs hP hS => ?_)
      refine lv_iload_n hx hb dX0_chance_30 rfl (lv_at hl 2 rfl) ?_
      refine ro_calll (va_runS (As := [.long (kvX0_sumOfBoth lw uw an qn q q), .long (kvX0_allBut d fn (-1 : Int32)), .int pt]) (rest := []) ⟨hx, hb, hml, hown, hts⟩ (kX0_lowestPart l D (kvX0_sumOfBoth lw uw an qn q q) (kvX0_allBut d fn (-1 : Int32)) pt) (va_cwS 3 hts gX0_chance_X0_lowestPart rfl rfl rfl ok_X0_lowestPart ⟨Nat.le_of_ble_eq_true rfl, Nat.le_of_ble_eq_true rfl⟩) ⟨oo_blind, oo_ps hP hK [] rfl [] rfl⟩ rfl rfl hl.1 rfl (lv_room (Nat.le_of_ble_eq_true rfl)) dX0_chance_31 ⟨Nat.le_of_ble_eq_true rfl, Nat.le_of_ble_eq_true rfl⟩) hP hS (fun H locs hP hS => ?_)
      exact ro_retl hx hb hr hlocks hS (by unfold kvX0_chance; rw [if_neg c_5, if_neg c_12]) dX0_chance_34
    · refine lv_ldc2 hx hb hown (hts (.constantLong RX0 98 (-1)) (by decide +kernel)) dX0_chance_15 ?_
      exact ro_retl hx hb hr hlocks hS (by unfold kvX0_chance; rw [if_neg c_5, if_pos c_12]) dX0_chance_18
end
section
theorem ok_X0_influence : yX0_influence.cls = RX0 ∧ yX0_influence.cls ≠ "java/lang/invoke/MethodHandle" ∧ yX0_influence.cls ≠ "java/lang/invoke/VarHandle" ∧ (parseMethodDescriptor yX0_influence.desc).map (fun d => d.parameters.length) = some 3 := by decide +kernel
def kvX0_influence (u : Nat → Int64) (d : Nat → Int64) (lw : Nat → Int64) (uw : Nat → Int64) (an : Nat → Int64) (fn : Nat) (qn : Nat) (q : Int32) (k : Int32) (pt : Int32) : Int64 := if (kvX0_isQuestion qn q) = 0 then (0 : Int64) else (if (kvX0_isFact fn k) = 0 then (0 : Int64) else (if (kvX0_isPart pt) = 0 then (0 : Int64) else (kvX0_lowestPart ((kvX0_sumWhenSurely u d lw uw an qn q k (1 : Int32)) - (kvX0_sumWhenSurely (kvX0_put_c0 12 (kvX0_put_c0 12 u k (1 : Int32).toInt64) k (kvX0_at 12 u k)) (kvX0_put_c0 12 (kvX0_put_c0 12 d k (1 : Int64)) k (kvX0_at 12 d k)) (kl_whO (kvX0_put_c0 12 (kvX0_put_c0 12 u k (1 : Int32).toInt64) k (kvX0_at 12 u k)) (kvX0_put_c0 12 (kvX0_put_c0 12 d k (1 : Int64)) k (kvX0_at 12 d k)) (0 : Int32) (kl_whO (kvX0_put_c0 12 u k (1 : Int32).toInt64) (kvX0_put_c0 12 d k (1 : Int64)) (0 : Int32) lw 6) 6) (kl_whO (kvX0_put_c0 12 (kvX0_put_c0 12 u k (1 : Int32).toInt64) k (kvX0_at 12 u k)) (kvX0_put_c0 12 (kvX0_put_c0 12 d k (1 : Int64)) k (kvX0_at 12 d k)) (nI 6) (kl_whO (kvX0_put_c0 12 u k (1 : Int32).toInt64) (kvX0_put_c0 12 d k (1 : Int64)) (nI 6) uw 6) 6) an qn q k (0 : Int32))) (kvX0_allBut (kvX0_put_c0 12 (kvX0_put_c0 12 (kvX0_put_c0 12 (kvX0_put_c0 12 d k (1 : Int64)) k (kvX0_at 12 d k)) k (1 : Int64)) k (kvX0_at 12 (kvX0_put_c0 12 (kvX0_put_c0 12 d k (1 : Int64)) k (kvX0_at 12 d k)) k)) fn k) pt)))
def kvX0_influence_u (u : Nat → Int64) (fn : Nat) (qn : Nat) (q : Int32) (k : Int32) (pt : Int32) : Nat → Int64 := if (kvX0_isQuestion qn q) = 0 then u else (if (kvX0_isFact fn k) = 0 then u else (if (kvX0_isPart pt) = 0 then u else (kvX0_put_c0 12 (kvX0_put_c0 12 (kvX0_put_c0 12 (kvX0_put_c0 12 u k (1 : Int32).toInt64) k (kvX0_at 12 u k)) k (0 : Int32).toInt64) k (kvX0_at 12 (kvX0_put_c0 12 (kvX0_put_c0 12 u k (1 : Int32).toInt64) k (kvX0_at 12 u k)) k))))
def kvX0_influence_d (d : Nat → Int64) (fn : Nat) (qn : Nat) (q : Int32) (k : Int32) (pt : Int32) : Nat → Int64 := if (kvX0_isQuestion qn q) = 0 then d else (if (kvX0_isFact fn k) = 0 then d else (if (kvX0_isPart pt) = 0 then d else (kvX0_put_c0 12 (kvX0_put_c0 12 (kvX0_put_c0 12 (kvX0_put_c0 12 d k (1 : Int64)) k (kvX0_at 12 d k)) k (1 : Int64)) k (kvX0_at 12 (kvX0_put_c0 12 (kvX0_put_c0 12 d k (1 : Int64)) k (kvX0_at 12 d k)) k))))
def kvX0_influence_lw (u : Nat → Int64) (d : Nat → Int64) (lw : Nat → Int64) (fn : Nat) (qn : Nat) (q : Int32) (k : Int32) (pt : Int32) : Nat → Int64 := if (kvX0_isQuestion qn q) = 0 then lw else (if (kvX0_isFact fn k) = 0 then lw else (if (kvX0_isPart pt) = 0 then lw else (kl_whO (kvX0_put_c0 12 (kvX0_put_c0 12 (kvX0_put_c0 12 (kvX0_put_c0 12 u k (1 : Int32).toInt64) k (kvX0_at 12 u k)) k (0 : Int32).toInt64) k (kvX0_at 12 (kvX0_put_c0 12 (kvX0_put_c0 12 u k (1 : Int32).toInt64) k (kvX0_at 12 u k)) k)) (kvX0_put_c0 12 (kvX0_put_c0 12 (kvX0_put_c0 12 (kvX0_put_c0 12 d k (1 : Int64)) k (kvX0_at 12 d k)) k (1 : Int64)) k (kvX0_at 12 (kvX0_put_c0 12 (kvX0_put_c0 12 d k (1 : Int64)) k (kvX0_at 12 d k)) k)) (0 : Int32) (kl_whO (kvX0_put_c0 12 (kvX0_put_c0 12 (kvX0_put_c0 12 u k (1 : Int32).toInt64) k (kvX0_at 12 u k)) k (0 : Int32).toInt64) (kvX0_put_c0 12 (kvX0_put_c0 12 (kvX0_put_c0 12 d k (1 : Int64)) k (kvX0_at 12 d k)) k (1 : Int64)) (0 : Int32) (kl_whO (kvX0_put_c0 12 (kvX0_put_c0 12 u k (1 : Int32).toInt64) k (kvX0_at 12 u k)) (kvX0_put_c0 12 (kvX0_put_c0 12 d k (1 : Int64)) k (kvX0_at 12 d k)) (0 : Int32) (kl_whO (kvX0_put_c0 12 u k (1 : Int32).toInt64) (kvX0_put_c0 12 d k (1 : Int64)) (0 : Int32) lw 6) 6) 6) 6)))
def kvX0_influence_uw (u : Nat → Int64) (d : Nat → Int64) (uw : Nat → Int64) (fn : Nat) (qn : Nat) (q : Int32) (k : Int32) (pt : Int32) : Nat → Int64 := if (kvX0_isQuestion qn q) = 0 then uw else (if (kvX0_isFact fn k) = 0 then uw else (if (kvX0_isPart pt) = 0 then uw else (kl_whO (kvX0_put_c0 12 (kvX0_put_c0 12 (kvX0_put_c0 12 (kvX0_put_c0 12 u k (1 : Int32).toInt64) k (kvX0_at 12 u k)) k (0 : Int32).toInt64) k (kvX0_at 12 (kvX0_put_c0 12 (kvX0_put_c0 12 u k (1 : Int32).toInt64) k (kvX0_at 12 u k)) k)) (kvX0_put_c0 12 (kvX0_put_c0 12 (kvX0_put_c0 12 (kvX0_put_c0 12 d k (1 : Int64)) k (kvX0_at 12 d k)) k (1 : Int64)) k (kvX0_at 12 (kvX0_put_c0 12 (kvX0_put_c0 12 d k (1 : Int64)) k (kvX0_at 12 d k)) k)) (nI 6) (kl_whO (kvX0_put_c0 12 (kvX0_put_c0 12 (kvX0_put_c0 12 u k (1 : Int32).toInt64) k (kvX0_at 12 u k)) k (0 : Int32).toInt64) (kvX0_put_c0 12 (kvX0_put_c0 12 (kvX0_put_c0 12 d k (1 : Int64)) k (kvX0_at 12 d k)) k (1 : Int64)) (nI 6) (kl_whO (kvX0_put_c0 12 (kvX0_put_c0 12 u k (1 : Int32).toInt64) k (kvX0_at 12 u k)) (kvX0_put_c0 12 (kvX0_put_c0 12 d k (1 : Int64)) k (kvX0_at 12 d k)) (nI 6) (kl_whO (kvX0_put_c0 12 u k (1 : Int32).toInt64) (kvX0_put_c0 12 d k (1 : Int64)) (nI 6) uw 6) 6) 6) 6)))
set_option maxHeartbeats 4000000 in
set_option maxRecDepth 100000 in
theorem kX0_influence (l : Launch) (D : va_G) (cJ : ClassId) (h a1 a2 a3 a4 a5 : Nat) (u d lw uw an : Nat → Int64) (fn qn : Nat) (sd : Int64) (q : Int32) (k : Int32) (pt : Int32) (hfn : fn ≤ 12) : MuL l yX0_influence wsX0_influence ({ frames := 5, cells := 0, slots := 0, locals := 128 } : Room) [.ref h, .int q, .int k, .int pt] D (xW cJ h a1 a2 a3 a4 a5 u d lw uw an (nI fn) (nI qn) sd) [(cJ, .long)] (xW cJ h a1 a2 a3 a4 a5 (kvX0_influence_u u fn qn q k pt) (kvX0_influence_d d fn qn q k pt) (kvX0_influence_lw u d lw fn qn q k pt) (kvX0_influence_uw u d uw fn qn q k pt) an (nI fn) (nI qn) sd) (kvX0_influence u d lw uw an fn qn q k pt) := by
  intro sz
  refine oo_head (C := RX0) (cc := cX0_influence) (maxL := 6) (ret := (some .long)) (by decide) rfl rfl (Nat.le_of_ble_eq_true rfl) ?_
  intro p e s m below meth c hx hb hr hlocks hml hown hnm hts hpre ls hl
  have hl : lv_has ls 6 [(0, .ref h), (1, .int q), (2, .int k), (3, .int pt)] := hl
  obtain ⟨rfl, hP, hK, hD0⟩ := hpre
  have hD := hD0.self (sz := s.heap.size)
  have hA := oo_A (xW cJ h a1 a2 a3 a4 a5 u d lw uw an (nI fn) (nI qn) sd) s
  have hS : va_S (va_A (xW cJ h a1 a2 a3 a4 a5 u d lw uw an (nI fn) (nI qn) sd) s.heap.size) s.heap s.heap [] := va_S.rf
  have hin : ∀ w ∈ wsX00, w ∈ wsX0_influence := fun w h => List.mem_cons_of_mem _ (List.mem_append_right _ h)
  refine lv_aload_n hx hb dX0_influence_0 rfl (lv_at hl 0 rfl) ?_
  refine lv_iload_n hx hb dX0_influence_1 rfl (lv_at hl 1 rfl) ?_
  refine ro_calli (va_runV (As := [.int q]) (rest := []) ⟨hx, hb, hml, hown, hts⟩ (kX0_isQuestion l D cJ h a1 a2 a3 a4 a5 u d lw uw an fn qn sd q) (cwV 1 hts gX0_influence_X0_isQuestion rfl rfl rfl ok_X0_isQuestion ⟨Nat.le_of_ble_eq_true rfl, Nat.le_of_ble_eq_true rfl⟩) ⟨oo_blind, va_recv hK hP (ci := 0) (q0 := 0) rfl rfl, oo_ps hP hK [0, 1, 2, 3, 4, 5] rfl [0] rfl⟩ rfl rfl hl.1 rfl (lv_room (Nat.le_of_ble_eq_true rfl)) dX0_influence_2 ⟨Nat.le_of_ble_eq_true rfl, Nat.le_of_ble_eq_true rfl⟩) hP hS (fun H locs hP hS => ?_)
  refine lv_if_eq (tgt := 23) hx hb dX0_influence_5 (by decide) (fun c_5 => ?_) (fun c_5 => ?_)
  · refine lv_lconst (v := (0 : Int64)) hx hb dX0_influence_23 (by decide) ?_
    have hP := Eq.mp (congrArg (fun z9 => va_P D vwCl (xW cJ h a1 a2 a3 a4 a5 z9 d lw uw an (nI fn) (nI qn) sd) H) (show u = kvX0_influence_u u fn qn q k pt from (by unfold kvX0_influence_u; rw [if_pos c_5]))) hP
    have hP := Eq.mp (congrArg (fun z9 => va_P D vwCl (xW cJ h a1 a2 a3 a4 a5 (kvX0_influence_u u fn qn q k pt) z9 lw uw an (nI fn) (nI qn) sd) H) (show d = kvX0_influence_d d fn qn q k pt from (by unfold kvX0_influence_d; rw [if_pos c_5]))) hP
    have hP := Eq.mp (congrArg (fun z9 => va_P D vwCl (xW cJ h a1 a2 a3 a4 a5 (kvX0_influence_u u fn qn q k pt) (kvX0_influence_d d fn qn q k pt) z9 uw an (nI fn) (nI qn) sd) H) (show lw = kvX0_influence_lw u d lw fn qn q k pt from (by unfold kvX0_influence_lw; rw [if_pos c_5]))) hP
    have hP := Eq.mp (congrArg (fun z9 => va_P D vwCl (xW cJ h a1 a2 a3 a4 a5 (kvX0_influence_u u fn qn q k pt) (kvX0_influence_d d fn qn q k pt) (kvX0_influence_lw u d lw fn qn q k pt) z9 an (nI fn) (nI qn) sd) H) (show uw = kvX0_influence_uw u d uw fn qn q k pt from (by unfold kvX0_influence_uw; rw [if_pos c_5]))) hP
    have hP : va_P D vwCl (xW cJ h a1 a2 a3 a4 a5 (kvX0_influence_u u fn qn q k pt) (kvX0_influence_d d fn qn q k pt) (kvX0_influence_lw u d lw fn qn q k pt) (kvX0_influence_uw u d uw fn qn q k pt) an (nI fn) (nI qn) sd) H := hP
    have hD : va_D _ (xW cJ h a1 a2 a3 a4 a5 (kvX0_influence_u u fn qn q k pt) (kvX0_influence_d d fn qn q k pt) (kvX0_influence_lw u d lw fn qn q k pt) (kvX0_influence_uw u d uw fn qn q k pt) an (nI fn) (nI qn) sd) := oo_Dre hD (oo_fc (oo_fc (oo_fc (oo_fc (oo_fc (oo_fc rfl))))))
    exact mu_retl hx hb hr hlocks hP hD hS (by unfold kvX0_influence; rw [if_pos c_5]) dX0_influence_24
  · refine lv_aload_n hx hb dX0_influence_8 rfl (lv_at hl 0 rfl) ?_
    refine lv_iload_n hx hb dX0_influence_9 rfl (lv_at hl 2 rfl) ?_
    refine ro_calli (va_runV (As := [.int k]) (rest := []) ⟨hx, hb, hml, hown, hts⟩ (kX0_isFact l D cJ h a1 a2 a3 a4 a5 u d lw uw an fn qn sd k) (cwV 1 hts gX0_influence_X0_isFact rfl rfl rfl ok_X0_isFact ⟨Nat.le_of_ble_eq_true rfl, Nat.le_of_ble_eq_true rfl⟩) ⟨oo_blind, va_recv hK hP (ci := 0) (q0 := 0) rfl rfl, oo_ps hP hK [0, 1, 2, 3, 4, 5] rfl [0] rfl⟩ rfl rfl hl.1 rfl (lv_room (Nat.le_of_ble_eq_true rfl)) dX0_influence_10 ⟨Nat.le_of_ble_eq_true rfl, Nat.le_of_ble_eq_true rfl⟩) hP hS (fun H locs hP hS => ?_)
    refine lv_if_eq (tgt := 23) hx hb dX0_influence_13 (by decide) (fun c_13 => ?_) (fun c_13 => ?_)
    · refine lv_lconst (v := (0 : Int64)) hx hb dX0_influence_23 (by decide) ?_
      have hP := Eq.mp (congrArg (fun z9 => va_P D vwCl (xW cJ h a1 a2 a3 a4 a5 z9 d lw uw an (nI fn) (nI qn) sd) H) (show u = kvX0_influence_u u fn qn q k pt from (by unfold kvX0_influence_u; rw [if_neg c_5, if_pos c_13]))) hP
      have hP := Eq.mp (congrArg (fun z9 => va_P D vwCl (xW cJ h a1 a2 a3 a4 a5 (kvX0_influence_u u fn qn q k pt) z9 lw uw an (nI fn) (nI qn) sd) H) (show d = kvX0_influence_d d fn qn q k pt from (by unfold kvX0_influence_d; rw [if_neg c_5, if_pos c_13]))) hP
      have hP := Eq.mp (congrArg (fun z9 => va_P D vwCl (xW cJ h a1 a2 a3 a4 a5 (kvX0_influence_u u fn qn q k pt) (kvX0_influence_d d fn qn q k pt) z9 uw an (nI fn) (nI qn) sd) H) (show lw = kvX0_influence_lw u d lw fn qn q k pt from (by unfold kvX0_influence_lw; rw [if_neg c_5, if_pos c_13]))) hP
      have hP := Eq.mp (congrArg (fun z9 => va_P D vwCl (xW cJ h a1 a2 a3 a4 a5 (kvX0_influence_u u fn qn q k pt) (kvX0_influence_d d fn qn q k pt) (kvX0_influence_lw u d lw fn qn q k pt) z9 an (nI fn) (nI qn) sd) H) (show uw = kvX0_influence_uw u d uw fn qn q k pt from (by unfold kvX0_influence_uw; rw [if_neg c_5, if_pos c_13]))) hP
      have hP : va_P D vwCl (xW cJ h a1 a2 a3 a4 a5 (kvX0_influence_u u fn qn q k pt) (kvX0_influence_d d fn qn q k pt) (kvX0_influence_lw u d lw fn qn q k pt) (kvX0_influence_uw u d uw fn qn q k pt) an (nI fn) (nI qn) sd) H := hP
      have hD : va_D _ (xW cJ h a1 a2 a3 a4 a5 (kvX0_influence_u u fn qn q k pt) (kvX0_influence_d d fn qn q k pt) (kvX0_influence_lw u d lw fn qn q k pt) (kvX0_influence_uw u d uw fn qn q k pt) an (nI fn) (nI qn) sd) := oo_Dre hD (oo_fc (oo_fc (oo_fc (oo_fc (oo_fc (oo_fc rfl))))))
      exact mu_retl hx hb hr hlocks hP hD hS (by unfold kvX0_influence; rw [if_neg c_5, if_pos c_13]) dX0_influence_24
    · refine lv_iload_n hx hb dX0_influence_16 rfl (lv_at hl 3 rfl) ?_
      refine ro_calli (va_runS (As := [.int pt]) (rest := []) ⟨hx, hb, hml, hown, hts⟩ (kX0_isPart l D pt) (va_cwS 1 hts gX0_influence_X0_isPart rfl rfl rfl ok_X0_isPart ⟨Nat.le_of_ble_eq_true rfl, Nat.le_of_ble_eq_true rfl⟩) ⟨oo_blind, oo_ps hP hK [] rfl [] rfl⟩ rfl rfl hl.1 rfl (lv_room (Nat.le_of_ble_eq_true rfl)) dX0_influence_17 ⟨Nat.le_of_ble_eq_true rfl, Nat.le_of_ble_eq_true rfl⟩) hP hS (fun H locs hP hS => ?_)
      refine lv_if_ne (tgt := 25) hx hb dX0_influence_20 (by decide) (fun c_20 => ?_) (fun c_20 => ?_)
      · refine lv_aload_n hx hb dX0_influence_25 rfl (lv_at hl 0 rfl) ?_
        refine lv_iload_n hx hb dX0_influence_26 rfl (lv_at hl 1 rfl) ?_
        refine lv_iload_n hx hb dX0_influence_27 rfl (lv_at hl 2 rfl) ?_
        refine lv_iconst (v := (1 : Int32)) hx hb dX0_influence_28 (by decide) ?_
        refine mu_calll (va_runV (As := [.int q, .int k, .int (1 : Int32)]) (rest := []) ⟨hx, hb, hml, hown, hts⟩ (kX0_sumWhenSurely l D cJ h a1 a2 a3 a4 a5 u d lw uw an fn qn sd q k (1 : Int32) _) (cwV 3 hts gX0_influence_X0_sumWhenSurely rfl rfl rfl ok_X0_sumWhenSurely ⟨Nat.le_of_ble_eq_true rfl, Nat.le_of_ble_eq_true rfl⟩) ⟨oo_blindM, va_recv hK hP (ci := 0) (q0 := 0) rfl rfl, oo_psM hP hD hK [0, 1, 2, 3, 4, 5] rfl rfl [0] rfl⟩ rfl rfl hl.1 rfl (lv_room (Nat.le_of_ble_eq_true rfl)) dX0_influence_29 ⟨Nat.le_of_ble_eq_true rfl, Nat.le_of_ble_eq_true rfl⟩) hP hD hS hA [0, 1, 2, 3, 4, 5] rfl (oo_fc (oo_fc (oo_fc (oo_fc (oo_fc (oo_fc rfl)))))) (fun H locs hP hD hS => ?_)
        have hP : va_P D vwCl (xW cJ h a1 a2 a3 a4 a5 (kvX0_put_c0 12 (kvX0_put_c0 12 u k (1 : Int32).toInt64) k (kvX0_at 12 u k)) (kvX0_put_c0 12 (kvX0_put_c0 12 d k (1 : Int64)) k (kvX0_at 12 d k)) (kl_whO (kvX0_put_c0 12 (kvX0_put_c0 12 u k (1 : Int32).toInt64) k (kvX0_at 12 u k)) (kvX0_put_c0 12 (kvX0_put_c0 12 d k (1 : Int64)) k (kvX0_at 12 d k)) (0 : Int32) (kl_whO (kvX0_put_c0 12 u k (1 : Int32).toInt64) (kvX0_put_c0 12 d k (1 : Int64)) (0 : Int32) lw 6) 6) (kl_whO (kvX0_put_c0 12 (kvX0_put_c0 12 u k (1 : Int32).toInt64) k (kvX0_at 12 u k)) (kvX0_put_c0 12 (kvX0_put_c0 12 d k (1 : Int64)) k (kvX0_at 12 d k)) (nI 6) (kl_whO (kvX0_put_c0 12 u k (1 : Int32).toInt64) (kvX0_put_c0 12 d k (1 : Int64)) (nI 6) uw 6) 6) an (nI fn) (nI qn) sd) H := hP
        have hD : va_D _ (xW cJ h a1 a2 a3 a4 a5 (kvX0_put_c0 12 (kvX0_put_c0 12 u k (1 : Int32).toInt64) k (kvX0_at 12 u k)) (kvX0_put_c0 12 (kvX0_put_c0 12 d k (1 : Int64)) k (kvX0_at 12 d k)) (kl_whO (kvX0_put_c0 12 (kvX0_put_c0 12 u k (1 : Int32).toInt64) k (kvX0_at 12 u k)) (kvX0_put_c0 12 (kvX0_put_c0 12 d k (1 : Int64)) k (kvX0_at 12 d k)) (0 : Int32) (kl_whO (kvX0_put_c0 12 u k (1 : Int32).toInt64) (kvX0_put_c0 12 d k (1 : Int64)) (0 : Int32) lw 6) 6) (kl_whO (kvX0_put_c0 12 (kvX0_put_c0 12 u k (1 : Int32).toInt64) k (kvX0_at 12 u k)) (kvX0_put_c0 12 (kvX0_put_c0 12 d k (1 : Int64)) k (kvX0_at 12 d k)) (nI 6) (kl_whO (kvX0_put_c0 12 u k (1 : Int32).toInt64) (kvX0_put_c0 12 d k (1 : Int64)) (nI 6) uw 6) 6) an (nI fn) (nI qn) sd) := hD
        refine lv_aload_n hx hb dX0_influence_32 rfl (lv_at hl 0 rfl) ?_
        refine lv_iload_n hx hb dX0_influence_33 rfl (lv_at hl 1 rfl) ?_
        refine lv_iload_n hx hb dX0_influence_34 rfl (lv_at hl 2 rfl) ?_
        refine lv_iconst (v := (0 : Int32)) hx hb dX0_influence_35 (by decide) ?_
        refine mu_calll (va_runV (As := [.int q, .int k, .int (0 : Int32)]) (rest := [.long (kvX0_sumWhenSurely u d lw uw an qn q k (1 : Int32))]) ⟨hx, hb, hml, hown, hts⟩ (kX0_sumWhenSurely l D cJ h a1 a2 a3 a4 a5 (kvX0_put_c0 12 (kvX0_put_c0 12 u k (1 : Int32).toInt64) k (kvX0_at 12 u k)) (kvX0_put_c0 12 (kvX0_put_c0 12 d k (1 : Int64)) k (kvX0_at 12 d k)) (kl_whO (kvX0_put_c0 12 (kvX0_put_c0 12 u k (1 : Int32).toInt64) k (kvX0_at 12 u k)) (kvX0_put_c0 12 (kvX0_put_c0 12 d k (1 : Int64)) k (kvX0_at 12 d k)) (0 : Int32) (kl_whO (kvX0_put_c0 12 u k (1 : Int32).toInt64) (kvX0_put_c0 12 d k (1 : Int64)) (0 : Int32) lw 6) 6) (kl_whO (kvX0_put_c0 12 (kvX0_put_c0 12 u k (1 : Int32).toInt64) k (kvX0_at 12 u k)) (kvX0_put_c0 12 (kvX0_put_c0 12 d k (1 : Int64)) k (kvX0_at 12 d k)) (nI 6) (kl_whO (kvX0_put_c0 12 u k (1 : Int32).toInt64) (kvX0_put_c0 12 d k (1 : Int64)) (nI 6) uw 6) 6) an fn qn sd q k (0 : Int32) _) (cwV 3 hts gX0_influence_X0_sumWhenSurely rfl rfl rfl ok_X0_sumWhenSurely ⟨Nat.le_of_ble_eq_true rfl, Nat.le_of_ble_eq_true rfl⟩) ⟨oo_blindM, va_recv hK hP (ci := 0) (q0 := 0) rfl rfl, oo_psM hP hD hK [0, 1, 2, 3, 4, 5] rfl rfl [0] rfl⟩ rfl rfl hl.1 rfl (lv_room (Nat.le_of_ble_eq_true rfl)) dX0_influence_36 ⟨Nat.le_of_ble_eq_true rfl, Nat.le_of_ble_eq_true rfl⟩) hP hD hS hA [0, 1, 2, 3, 4, 5] rfl (oo_fc (oo_fc (oo_fc (oo_fc (oo_fc (oo_fc rfl)))))) (fun H locs hP hD hS => ?_)
        have hP : va_P D vwCl (xW cJ h a1 a2 a3 a4 a5 (kvX0_put_c0 12 (kvX0_put_c0 12 (kvX0_put_c0 12 (kvX0_put_c0 12 u k (1 : Int32).toInt64) k (kvX0_at 12 u k)) k (0 : Int32).toInt64) k (kvX0_at 12 (kvX0_put_c0 12 (kvX0_put_c0 12 u k (1 : Int32).toInt64) k (kvX0_at 12 u k)) k)) (kvX0_put_c0 12 (kvX0_put_c0 12 (kvX0_put_c0 12 (kvX0_put_c0 12 d k (1 : Int64)) k (kvX0_at 12 d k)) k (1 : Int64)) k (kvX0_at 12 (kvX0_put_c0 12 (kvX0_put_c0 12 d k (1 : Int64)) k (kvX0_at 12 d k)) k)) (kl_whO (kvX0_put_c0 12 (kvX0_put_c0 12 (kvX0_put_c0 12 (kvX0_put_c0 12 u k (1 : Int32).toInt64) k (kvX0_at 12 u k)) k (0 : Int32).toInt64) k (kvX0_at 12 (kvX0_put_c0 12 (kvX0_put_c0 12 u k (1 : Int32).toInt64) k (kvX0_at 12 u k)) k)) (kvX0_put_c0 12 (kvX0_put_c0 12 (kvX0_put_c0 12 (kvX0_put_c0 12 d k (1 : Int64)) k (kvX0_at 12 d k)) k (1 : Int64)) k (kvX0_at 12 (kvX0_put_c0 12 (kvX0_put_c0 12 d k (1 : Int64)) k (kvX0_at 12 d k)) k)) (0 : Int32) (kl_whO (kvX0_put_c0 12 (kvX0_put_c0 12 (kvX0_put_c0 12 u k (1 : Int32).toInt64) k (kvX0_at 12 u k)) k (0 : Int32).toInt64) (kvX0_put_c0 12 (kvX0_put_c0 12 (kvX0_put_c0 12 d k (1 : Int64)) k (kvX0_at 12 d k)) k (1 : Int64)) (0 : Int32) (kl_whO (kvX0_put_c0 12 (kvX0_put_c0 12 u k (1 : Int32).toInt64) k (kvX0_at 12 u k)) (kvX0_put_c0 12 (kvX0_put_c0 12 d k (1 : Int64)) k (kvX0_at 12 d k)) (0 : Int32) (kl_whO (kvX0_put_c0 12 u k (1 : Int32).toInt64) (kvX0_put_c0 12 d k (1 : Int64)) (0 : Int32) lw 6) 6) 6) 6) (kl_whO (kvX0_put_c0 12 (kvX0_put_c0 12 (kvX0_put_c0 12 (kvX0_put_c0 12 u k (1 : Int32).toInt64) k (kvX0_at 12 u k)) k (0 : Int32).toInt64) k (kvX0_at 12 (kvX0_put_c0 12 (kvX0_put_c0 12 u k (1 : Int32).toInt64) k (kvX0_at 12 u k)) k)) (kvX0_put_c0 12 (kvX0_put_c0 12 (kvX0_put_c0 12 (kvX0_put_c0 12 d k (1 : Int64)) k (kvX0_at 12 d k)) k (1 : Int64)) k (kvX0_at 12 (kvX0_put_c0 12 (kvX0_put_c0 12 d k (1 : Int64)) k (kvX0_at 12 d k)) k)) (nI 6) (kl_whO (kvX0_put_c0 12 (kvX0_put_c0 12 (kvX0_put_c0 12 u k (1 : Int32).toInt64) k (kvX0_at 12 u k)) k (0 : Int32).toInt64) (kvX0_put_c0 12 (kvX0_put_c0 12 (kvX0_put_c0 12 d k (1 : Int64)) k (kvX0_at 12 d k)) k (1 : Int64)) (nI 6) (kl_whO (kvX0_put_c0 12 (kvX0_put_c0 12 u k (1 : Int32).toInt64) k (kvX0_at 12 u k)) (kvX0_put_c0 12 (kvX0_put_c0 12 d k (1 : Int64)) k (kvX0_at 12 d k)) (nI 6) (kl_whO (kvX0_put_c0 12 u k (1 : Int32).toInt64) (kvX0_put_c0 12 d k (1 : Int64)) (nI 6) uw 6) 6) 6) 6) an (nI fn) (nI qn) sd) H := hP
        have hD : va_D _ (xW cJ h a1 a2 a3 a4 a5 (kvX0_put_c0 12 (kvX0_put_c0 12 (kvX0_put_c0 12 (kvX0_put_c0 12 u k (1 : Int32).toInt64) k (kvX0_at 12 u k)) k (0 : Int32).toInt64) k (kvX0_at 12 (kvX0_put_c0 12 (kvX0_put_c0 12 u k (1 : Int32).toInt64) k (kvX0_at 12 u k)) k)) (kvX0_put_c0 12 (kvX0_put_c0 12 (kvX0_put_c0 12 (kvX0_put_c0 12 d k (1 : Int64)) k (kvX0_at 12 d k)) k (1 : Int64)) k (kvX0_at 12 (kvX0_put_c0 12 (kvX0_put_c0 12 d k (1 : Int64)) k (kvX0_at 12 d k)) k)) (kl_whO (kvX0_put_c0 12 (kvX0_put_c0 12 (kvX0_put_c0 12 (kvX0_put_c0 12 u k (1 : Int32).toInt64) k (kvX0_at 12 u k)) k (0 : Int32).toInt64) k (kvX0_at 12 (kvX0_put_c0 12 (kvX0_put_c0 12 u k (1 : Int32).toInt64) k (kvX0_at 12 u k)) k)) (kvX0_put_c0 12 (kvX0_put_c0 12 (kvX0_put_c0 12 (kvX0_put_c0 12 d k (1 : Int64)) k (kvX0_at 12 d k)) k (1 : Int64)) k (kvX0_at 12 (kvX0_put_c0 12 (kvX0_put_c0 12 d k (1 : Int64)) k (kvX0_at 12 d k)) k)) (0 : Int32) (kl_whO (kvX0_put_c0 12 (kvX0_put_c0 12 (kvX0_put_c0 12 u k (1 : Int32).toInt64) k (kvX0_at 12 u k)) k (0 : Int32).toInt64) (kvX0_put_c0 12 (kvX0_put_c0 12 (kvX0_put_c0 12 d k (1 : Int64)) k (kvX0_at 12 d k)) k (1 : Int64)) (0 : Int32) (kl_whO (kvX0_put_c0 12 (kvX0_put_c0 12 u k (1 : Int32).toInt64) k (kvX0_at 12 u k)) (kvX0_put_c0 12 (kvX0_put_c0 12 d k (1 : Int64)) k (kvX0_at 12 d k)) (0 : Int32) (kl_whO (kvX0_put_c0 12 u k (1 : Int32).toInt64) (kvX0_put_c0 12 d k (1 : Int64)) (0 : Int32) lw 6) 6) 6) 6) (kl_whO (kvX0_put_c0 12 (kvX0_put_c0 12 (kvX0_put_c0 12 (kvX0_put_c0 12 u k (1 : Int32).toInt64) k (kvX0_at 12 u k)) k (0 : Int32).toInt64) k (kvX0_at 12 (kvX0_put_c0 12 (kvX0_put_c0 12 u k (1 : Int32).toInt64) k (kvX0_at 12 u k)) k)) (kvX0_put_c0 12 (kvX0_put_c0 12 (kvX0_put_c0 12 (kvX0_put_c0 12 d k (1 : Int64)) k (kvX0_at 12 d k)) k (1 : Int64)) k (kvX0_at 12 (kvX0_put_c0 12 (kvX0_put_c0 12 d k (1 : Int64)) k (kvX0_at 12 d k)) k)) (nI 6) (kl_whO (kvX0_put_c0 12 (kvX0_put_c0 12 (kvX0_put_c0 12 u k (1 : Int32).toInt64) k (kvX0_at 12 u k)) k (0 : Int32).toInt64) (kvX0_put_c0 12 (kvX0_put_c0 12 (kvX0_put_c0 12 d k (1 : Int64)) k (kvX0_at 12 d k)) k (1 : Int64)) (nI 6) (kl_whO (kvX0_put_c0 12 (kvX0_put_c0 12 u k (1 : Int32).toInt64) k (kvX0_at 12 u k)) (kvX0_put_c0 12 (kvX0_put_c0 12 d k (1 : Int64)) k (kvX0_at 12 d k)) (nI 6) (kl_whO (kvX0_put_c0 12 u k (1 : Int32).toInt64) (kvX0_put_c0 12 d k (1 : Int64)) (nI 6) uw 6) 6) 6) 6) an (nI fn) (nI qn) sd) := hD
        refine lv_lsub hx hb dX0_influence_39 ?_
        refine lv_lstore (lv' := [(4, .long ((kvX0_sumWhenSurely u d lw uw an qn q k (1 : Int32)) - (kvX0_sumWhenSurely (kvX0_put_c0 12 (kvX0_put_c0 12 u k (1 : Int32).toInt64) k (kvX0_at 12 u k)) (kvX0_put_c0 12 (kvX0_put_c0 12 d k (1 : Int64)) k (kvX0_at 12 d k)) (kl_whO (kvX0_put_c0 12 (kvX0_put_c0 12 u k (1 : Int32).toInt64) k (kvX0_at 12 u k)) (kvX0_put_c0 12 (kvX0_put_c0 12 d k (1 : Int64)) k (kvX0_at 12 d k)) (0 : Int32) (kl_whO (kvX0_put_c0 12 u k (1 : Int32).toInt64) (kvX0_put_c0 12 d k (1 : Int64)) (0 : Int32) lw 6) 6) (kl_whO (kvX0_put_c0 12 (kvX0_put_c0 12 u k (1 : Int32).toInt64) k (kvX0_at 12 u k)) (kvX0_put_c0 12 (kvX0_put_c0 12 d k (1 : Int64)) k (kvX0_at 12 d k)) (nI 6) (kl_whO (kvX0_put_c0 12 u k (1 : Int32).toInt64) (kvX0_put_c0 12 d k (1 : Int64)) (nI 6) uw 6) 6) an qn q k (0 : Int32)))), (0, .ref h), (1, .int q), (2, .int k), (3, .int pt)]) hx hb dX0_influence_40 hl (by decide) rfl (fun ls hl => ?_)
        refine lv_lload hx hb dX0_influence_42 (lv_at hl 0 rfl) ?_
        refine lv_aload_n hx hb dX0_influence_44 rfl (lv_at hl 1 rfl) ?_
        refine lv_iload_n hx hb dX0_influence_45 rfl (lv_at hl 3 rfl) ?_
        refine ro_calll (va_runV (As := [.int k]) (rest := [.long ((kvX0_sumWhenSurely u d lw uw an qn q k (1 : Int32)) - (kvX0_sumWhenSurely (kvX0_put_c0 12 (kvX0_put_c0 12 u k (1 : Int32).toInt64) k (kvX0_at 12 u k)) (kvX0_put_c0 12 (kvX0_put_c0 12 d k (1 : Int64)) k (kvX0_at 12 d k)) (kl_whO (kvX0_put_c0 12 (kvX0_put_c0 12 u k (1 : Int32).toInt64) k (kvX0_at 12 u k)) (kvX0_put_c0 12 (kvX0_put_c0 12 d k (1 : Int64)) k (kvX0_at 12 d k)) (0 : Int32) (kl_whO (kvX0_put_c0 12 u k (1 : Int32).toInt64) (kvX0_put_c0 12 d k (1 : Int64)) (0 : Int32) lw 6) 6) (kl_whO (kvX0_put_c0 12 (kvX0_put_c0 12 u k (1 : Int32).toInt64) k (kvX0_at 12 u k)) (kvX0_put_c0 12 (kvX0_put_c0 12 d k (1 : Int64)) k (kvX0_at 12 d k)) (nI 6) (kl_whO (kvX0_put_c0 12 u k (1 : Int32).toInt64) (kvX0_put_c0 12 d k (1 : Int64)) (nI 6) uw 6) 6) an qn q k (0 : Int32)))]) ⟨hx, hb, hml, hown, hts⟩ (kX0_allBut l D cJ h a1 a2 a3 a4 a5 (kvX0_put_c0 12 (kvX0_put_c0 12 (kvX0_put_c0 12 (kvX0_put_c0 12 u k (1 : Int32).toInt64) k (kvX0_at 12 u k)) k (0 : Int32).toInt64) k (kvX0_at 12 (kvX0_put_c0 12 (kvX0_put_c0 12 u k (1 : Int32).toInt64) k (kvX0_at 12 u k)) k)) (kvX0_put_c0 12 (kvX0_put_c0 12 (kvX0_put_c0 12 (kvX0_put_c0 12 d k (1 : Int64)) k (kvX0_at 12 d k)) k (1 : Int64)) k (kvX0_at 12 (kvX0_put_c0 12 (kvX0_put_c0 12 d k (1 : Int64)) k (kvX0_at 12 d k)) k)) (kl_whO (kvX0_put_c0 12 (kvX0_put_c0 12 (kvX0_put_c0 12 (kvX0_put_c0 12 u k (1 : Int32).toInt64) k (kvX0_at 12 u k)) k (0 : Int32).toInt64) k (kvX0_at 12 (kvX0_put_c0 12 (kvX0_put_c0 12 u k (1 : Int32).toInt64) k (kvX0_at 12 u k)) k)) (kvX0_put_c0 12 (kvX0_put_c0 12 (kvX0_put_c0 12 (kvX0_put_c0 12 d k (1 : Int64)) k (kvX0_at 12 d k)) k (1 : Int64)) k (kvX0_at 12 (kvX0_put_c0 12 (kvX0_put_c0 12 d k (1 : Int64)) k (kvX0_at 12 d k)) k)) (0 : Int32) (kl_whO (kvX0_put_c0 12 (kvX0_put_c0 12 (kvX0_put_c0 12 u k (1 : Int32).toInt64) k (kvX0_at 12 u k)) k (0 : Int32).toInt64) (kvX0_put_c0 12 (kvX0_put_c0 12 (kvX0_put_c0 12 d k (1 : Int64)) k (kvX0_at 12 d k)) k (1 : Int64)) (0 : Int32) (kl_whO (kvX0_put_c0 12 (kvX0_put_c0 12 u k (1 : Int32).toInt64) k (kvX0_at 12 u k)) (kvX0_put_c0 12 (kvX0_put_c0 12 d k (1 : Int64)) k (kvX0_at 12 d k)) (0 : Int32) (kl_whO (kvX0_put_c0 12 u k (1 : Int32).toInt64) (kvX0_put_c0 12 d k (1 : Int64)) (0 : Int32) lw 6) 6) 6) 6) (kl_whO (kvX0_put_c0 12 (kvX0_put_c0 12 (kvX0_put_c0 12 (kvX0_put_c0 12 u k (1 : Int32).toInt64) k (kvX0_at 12 u k)) k (0 : Int32).toInt64) k (kvX0_at 12 (kvX0_put_c0 12 (kvX0_put_c0 12 u k (1 : Int32).toInt64) k (kvX0_at 12 u k)) k)) (kvX0_put_c0 12 (kvX0_put_c0 12 (kvX0_put_c0 12 (kvX0_put_c0 12 d k (1 : Int64)) k (kvX0_at 12 d k)) k (1 : Int64)) k (kvX0_at 12 (kvX0_put_c0 12 (kvX0_put_c0 12 d k (1 : Int64)) k (kvX0_at 12 d k)) k)) (nI 6) (kl_whO (kvX0_put_c0 12 (kvX0_put_c0 12 (kvX0_put_c0 12 u k (1 : Int32).toInt64) k (kvX0_at 12 u k)) k (0 : Int32).toInt64) (kvX0_put_c0 12 (kvX0_put_c0 12 (kvX0_put_c0 12 d k (1 : Int64)) k (kvX0_at 12 d k)) k (1 : Int64)) (nI 6) (kl_whO (kvX0_put_c0 12 (kvX0_put_c0 12 u k (1 : Int32).toInt64) k (kvX0_at 12 u k)) (kvX0_put_c0 12 (kvX0_put_c0 12 d k (1 : Int64)) k (kvX0_at 12 d k)) (nI 6) (kl_whO (kvX0_put_c0 12 u k (1 : Int32).toInt64) (kvX0_put_c0 12 d k (1 : Int64)) (nI 6) uw 6) 6) 6) 6) an fn qn sd k hfn) (cwV 1 hts gX0_influence_X0_allBut rfl rfl rfl ok_X0_allBut ⟨Nat.le_of_ble_eq_true rfl, Nat.le_of_ble_eq_true rfl⟩) ⟨oo_blind, va_recv hK hP (ci := 0) (q0 := 0) rfl rfl, oo_ps hP hK [0, 1, 2, 3, 4, 5] rfl [0] rfl⟩ rfl rfl hl.1 rfl (lv_room (Nat.le_of_ble_eq_true rfl)) dX0_influence_46 ⟨Nat.le_of_ble_eq_true rfl, Nat.le_of_ble_eq_true rfl⟩) hP hS (fun H locs hP hS => ?_)
        refine lv_iload_n hx hb dX0_influence_49 rfl (lv_at hl 4 rfl) ?_
        refine ro_calll (va_runS (As := [.long ((kvX0_sumWhenSurely u d lw uw an qn q k (1 : Int32)) - (kvX0_sumWhenSurely (kvX0_put_c0 12 (kvX0_put_c0 12 u k (1 : Int32).toInt64) k (kvX0_at 12 u k)) (kvX0_put_c0 12 (kvX0_put_c0 12 d k (1 : Int64)) k (kvX0_at 12 d k)) (kl_whO (kvX0_put_c0 12 (kvX0_put_c0 12 u k (1 : Int32).toInt64) k (kvX0_at 12 u k)) (kvX0_put_c0 12 (kvX0_put_c0 12 d k (1 : Int64)) k (kvX0_at 12 d k)) (0 : Int32) (kl_whO (kvX0_put_c0 12 u k (1 : Int32).toInt64) (kvX0_put_c0 12 d k (1 : Int64)) (0 : Int32) lw 6) 6) (kl_whO (kvX0_put_c0 12 (kvX0_put_c0 12 u k (1 : Int32).toInt64) k (kvX0_at 12 u k)) (kvX0_put_c0 12 (kvX0_put_c0 12 d k (1 : Int64)) k (kvX0_at 12 d k)) (nI 6) (kl_whO (kvX0_put_c0 12 u k (1 : Int32).toInt64) (kvX0_put_c0 12 d k (1 : Int64)) (nI 6) uw 6) 6) an qn q k (0 : Int32))), .long (kvX0_allBut (kvX0_put_c0 12 (kvX0_put_c0 12 (kvX0_put_c0 12 (kvX0_put_c0 12 d k (1 : Int64)) k (kvX0_at 12 d k)) k (1 : Int64)) k (kvX0_at 12 (kvX0_put_c0 12 (kvX0_put_c0 12 d k (1 : Int64)) k (kvX0_at 12 d k)) k)) fn k), .int pt]) (rest := []) ⟨hx, hb, hml, hown, hts⟩ (kX0_lowestPart l D ((kvX0_sumWhenSurely u d lw uw an qn q k (1 : Int32)) - (kvX0_sumWhenSurely (kvX0_put_c0 12 (kvX0_put_c0 12 u k (1 : Int32).toInt64) k (kvX0_at 12 u k)) (kvX0_put_c0 12 (kvX0_put_c0 12 d k (1 : Int64)) k (kvX0_at 12 d k)) (kl_whO (kvX0_put_c0 12 (kvX0_put_c0 12 u k (1 : Int32).toInt64) k (kvX0_at 12 u k)) (kvX0_put_c0 12 (kvX0_put_c0 12 d k (1 : Int64)) k (kvX0_at 12 d k)) (0 : Int32) (kl_whO (kvX0_put_c0 12 u k (1 : Int32).toInt64) (kvX0_put_c0 12 d k (1 : Int64)) (0 : Int32) lw 6) 6) (kl_whO (kvX0_put_c0 12 (kvX0_put_c0 12 u k (1 : Int32).toInt64) k (kvX0_at 12 u k)) (kvX0_put_c0 12 (kvX0_put_c0 12 d k (1 : Int64)) k (kvX0_at 12 d k)) (nI 6) (kl_whO (kvX0_put_c0 12 u k (1 : Int32).toInt64) (kvX0_put_c0 12 d k (1 : Int64)) (nI 6) uw 6) 6) an qn q k (0 : Int32))) (kvX0_allBut (kvX0_put_c0 12 (kvX0_put_c0 12 (kvX0_put_c0 12 (kvX0_put_c0 12 d k (1 : Int64)) k (kvX0_at 12 d k)) k (1 : Int64)) k (kvX0_at 12 (kvX0_put_c0 12 (kvX0_put_c0 12 d k (1 : Int64)) k (kvX0_at 12 d k)) k)) fn k) pt) (va_cwS 3 hts gX0_influence_X0_lowestPart rfl rfl rfl ok_X0_lowestPart ⟨Nat.le_of_ble_eq_true rfl, Nat.le_of_ble_eq_true rfl⟩) ⟨oo_blind, oo_ps hP hK [] rfl [] rfl⟩ rfl rfl hl.1 rfl (lv_room (Nat.le_of_ble_eq_true rfl)) dX0_influence_50 ⟨Nat.le_of_ble_eq_true rfl, Nat.le_of_ble_eq_true rfl⟩) hP hS (fun H locs hP hS => ?_)
        have hP := Eq.mp (congrArg (fun z9 => va_P D vwCl (xW cJ h a1 a2 a3 a4 a5 z9 (kvX0_put_c0 12 (kvX0_put_c0 12 (kvX0_put_c0 12 (kvX0_put_c0 12 d k (1 : Int64)) k (kvX0_at 12 d k)) k (1 : Int64)) k (kvX0_at 12 (kvX0_put_c0 12 (kvX0_put_c0 12 d k (1 : Int64)) k (kvX0_at 12 d k)) k)) (kl_whO (kvX0_put_c0 12 (kvX0_put_c0 12 (kvX0_put_c0 12 (kvX0_put_c0 12 u k (1 : Int32).toInt64) k (kvX0_at 12 u k)) k (0 : Int32).toInt64) k (kvX0_at 12 (kvX0_put_c0 12 (kvX0_put_c0 12 u k (1 : Int32).toInt64) k (kvX0_at 12 u k)) k)) (kvX0_put_c0 12 (kvX0_put_c0 12 (kvX0_put_c0 12 (kvX0_put_c0 12 d k (1 : Int64)) k (kvX0_at 12 d k)) k (1 : Int64)) k (kvX0_at 12 (kvX0_put_c0 12 (kvX0_put_c0 12 d k (1 : Int64)) k (kvX0_at 12 d k)) k)) (0 : Int32) (kl_whO (kvX0_put_c0 12 (kvX0_put_c0 12 (kvX0_put_c0 12 u k (1 : Int32).toInt64) k (kvX0_at 12 u k)) k (0 : Int32).toInt64) (kvX0_put_c0 12 (kvX0_put_c0 12 (kvX0_put_c0 12 d k (1 : Int64)) k (kvX0_at 12 d k)) k (1 : Int64)) (0 : Int32) (kl_whO (kvX0_put_c0 12 (kvX0_put_c0 12 u k (1 : Int32).toInt64) k (kvX0_at 12 u k)) (kvX0_put_c0 12 (kvX0_put_c0 12 d k (1 : Int64)) k (kvX0_at 12 d k)) (0 : Int32) (kl_whO (kvX0_put_c0 12 u k (1 : Int32).toInt64) (kvX0_put_c0 12 d k (1 : Int64)) (0 : Int32) lw 6) 6) 6) 6) (kl_whO (kvX0_put_c0 12 (kvX0_put_c0 12 (kvX0_put_c0 12 (kvX0_put_c0 12 u k (1 : Int32).toInt64) k (kvX0_at 12 u k)) k (0 : Int32).toInt64) k (kvX0_at 12 (kvX0_put_c0 12 (kvX0_put_c0 12 u k (1 : Int32).toInt64) k (kvX0_at 12 u k)) k)) (kvX0_put_c0 12 (kvX0_put_c0 12 (kvX0_put_c0 12 (kvX0_put_c0 12 d k (1 : Int64)) k (kvX0_at 12 d k)) k (1 : Int64)) k (kvX0_at 12 (kvX0_put_c0 12 (kvX0_put_c0 12 d k (1 : Int64)) k (kvX0_at 12 d k)) k)) (nI 6) (kl_whO (kvX0_put_c0 12 (kvX0_put_c0 12 (kvX0_put_c0 12 u k (1 : Int32).toInt64) k (kvX0_at 12 u k)) k (0 : Int32).toInt64) (kvX0_put_c0 12 (kvX0_put_c0 12 (kvX0_put_c0 12 d k (1 : Int64)) k (kvX0_at 12 d k)) k (1 : Int64)) (nI 6) (kl_whO (kvX0_put_c0 12 (kvX0_put_c0 12 u k (1 : Int32).toInt64) k (kvX0_at 12 u k)) (kvX0_put_c0 12 (kvX0_put_c0 12 d k (1 : Int64)) k (kvX0_at 12 d k)) (nI 6) (kl_whO (kvX0_put_c0 12 u k (1 : Int32).toInt64) (kvX0_put_c0 12 d k (1 : Int64)) (nI 6) uw 6) 6) 6) 6) an (nI fn) (nI qn) sd) H) (show (kvX0_put_c0 12 (kvX0_put_c0 12 (kvX0_put_c0 12 (kvX0_put_c0 12 u k (1 : Int32).toInt64) k (kvX0_at 12 u k)) k (0 : Int32).toInt64) k (kvX0_at 12 (kvX0_put_c0 12 (kvX0_put_c0 12 u k (1 : Int32).toInt64) k (kvX0_at 12 u k)) k)) = kvX0_influence_u u fn qn q k pt from (by unfold kvX0_influence_u; rw [if_neg c_5, if_neg c_13, if_neg c_20]))) hP
        have hP := Eq.mp (congrArg (fun z9 => va_P D vwCl (xW cJ h a1 a2 a3 a4 a5 (kvX0_influence_u u fn qn q k pt) z9 (kl_whO (kvX0_put_c0 12 (kvX0_put_c0 12 (kvX0_put_c0 12 (kvX0_put_c0 12 u k (1 : Int32).toInt64) k (kvX0_at 12 u k)) k (0 : Int32).toInt64) k (kvX0_at 12 (kvX0_put_c0 12 (kvX0_put_c0 12 u k (1 : Int32).toInt64) k (kvX0_at 12 u k)) k)) (kvX0_put_c0 12 (kvX0_put_c0 12 (kvX0_put_c0 12 (kvX0_put_c0 12 d k (1 : Int64)) k (kvX0_at 12 d k)) k (1 : Int64)) k (kvX0_at 12 (kvX0_put_c0 12 (kvX0_put_c0 12 d k (1 : Int64)) k (kvX0_at 12 d k)) k)) (0 : Int32) (kl_whO (kvX0_put_c0 12 (kvX0_put_c0 12 (kvX0_put_c0 12 u k (1 : Int32).toInt64) k (kvX0_at 12 u k)) k (0 : Int32).toInt64) (kvX0_put_c0 12 (kvX0_put_c0 12 (kvX0_put_c0 12 d k (1 : Int64)) k (kvX0_at 12 d k)) k (1 : Int64)) (0 : Int32) (kl_whO (kvX0_put_c0 12 (kvX0_put_c0 12 u k (1 : Int32).toInt64) k (kvX0_at 12 u k)) (kvX0_put_c0 12 (kvX0_put_c0 12 d k (1 : Int64)) k (kvX0_at 12 d k)) (0 : Int32) (kl_whO (kvX0_put_c0 12 u k (1 : Int32).toInt64) (kvX0_put_c0 12 d k (1 : Int64)) (0 : Int32) lw 6) 6) 6) 6) (kl_whO (kvX0_put_c0 12 (kvX0_put_c0 12 (kvX0_put_c0 12 (kvX0_put_c0 12 u k (1 : Int32).toInt64) k (kvX0_at 12 u k)) k (0 : Int32).toInt64) k (kvX0_at 12 (kvX0_put_c0 12 (kvX0_put_c0 12 u k (1 : Int32).toInt64) k (kvX0_at 12 u k)) k)) (kvX0_put_c0 12 (kvX0_put_c0 12 (kvX0_put_c0 12 (kvX0_put_c0 12 d k (1 : Int64)) k (kvX0_at 12 d k)) k (1 : Int64)) k (kvX0_at 12 (kvX0_put_c0 12 (kvX0_put_c0 12 d k (1 : Int64)) k (kvX0_at 12 d k)) k)) (nI 6) (kl_whO (kvX0_put_c0 12 (kvX0_put_c0 12 (kvX0_put_c0 12 u k (1 : Int32).toInt64) k (kvX0_at 12 u k)) k (0 : Int32).toInt64) (kvX0_put_c0 12 (kvX0_put_c0 12 (kvX0_put_c0 12 d k (1 : Int64)) k (kvX0_at 12 d k)) k (1 : Int64)) (nI 6) (kl_whO (kvX0_put_c0 12 (kvX0_put_c0 12 u k (1 : Int32).toInt64) k (kvX0_at 12 u k)) (kvX0_put_c0 12 (kvX0_put_c0 12 d k (1 : Int64)) k (kvX0_at 12 d k)) (nI 6) (kl_whO (kvX0_put_c0 12 u k (1 : Int32).toInt64) (kvX0_put_c0 12 d k (1 : Int64)) (nI 6) uw 6) 6) 6) 6) an (nI fn) (nI qn) sd) H) (show (kvX0_put_c0 12 (kvX0_put_c0 12 (kvX0_put_c0 12 (kvX0_put_c0 12 d k (1 : Int64)) k (kvX0_at 12 d k)) k (1 : Int64)) k (kvX0_at 12 (kvX0_put_c0 12 (kvX0_put_c0 12 d k (1 : Int64)) k (kvX0_at 12 d k)) k)) = kvX0_influence_d d fn qn q k pt from (by unfold kvX0_influence_d; rw [if_neg c_5, if_neg c_13, if_neg c_20]))) hP
        have hP := Eq.mp (congrArg (fun z9 => va_P D vwCl (xW cJ h a1 a2 a3 a4 a5 (kvX0_influence_u u fn qn q k pt) (kvX0_influence_d d fn qn q k pt) z9 (kl_whO (kvX0_put_c0 12 (kvX0_put_c0 12 (kvX0_put_c0 12 (kvX0_put_c0 12 u k (1 : Int32).toInt64) k (kvX0_at 12 u k)) k (0 : Int32).toInt64) k (kvX0_at 12 (kvX0_put_c0 12 (kvX0_put_c0 12 u k (1 : Int32).toInt64) k (kvX0_at 12 u k)) k)) (kvX0_put_c0 12 (kvX0_put_c0 12 (kvX0_put_c0 12 (kvX0_put_c0 12 d k (1 : Int64)) k (kvX0_at 12 d k)) k (1 : Int64)) k (kvX0_at 12 (kvX0_put_c0 12 (kvX0_put_c0 12 d k (1 : Int64)) k (kvX0_at 12 d k)) k)) (nI 6) (kl_whO (kvX0_put_c0 12 (kvX0_put_c0 12 (kvX0_put_c0 12 u k (1 : Int32).toInt64) k (kvX0_at 12 u k)) k (0 : Int32).toInt64) (kvX0_put_c0 12 (kvX0_put_c0 12 (kvX0_put_c0 12 d k (1 : Int64)) k (kvX0_at 12 d k)) k (1 : Int64)) (nI 6) (kl_whO (kvX0_put_c0 12 (kvX0_put_c0 12 u k (1 : Int32).toInt64) k (kvX0_at 12 u k)) (kvX0_put_c0 12 (kvX0_put_c0 12 d k (1 : Int64)) k (kvX0_at 12 d k)) (nI 6) (kl_whO (kvX0_put_c0 12 u k (1 : Int32).toInt64) (kvX0_put_c0 12 d k (1 : Int64)) (nI 6) uw 6) 6) 6) 6) an (nI fn) (nI qn) sd) H) (show kl_whO (kvX0_put_c0 12 (kvX0_put_c0 12 (kvX0_put_c0 12 (kvX0_put_c0 12 u k (1 : Int32).toInt64) k (kvX0_at 12 u k)) k (0 : Int32).toInt64) k (kvX0_at 12 (kvX0_put_c0 12 (kvX0_put_c0 12 u k (1 : Int32).toInt64) k (kvX0_at 12 u k)) k)) (kvX0_put_c0 12 (kvX0_put_c0 12 (kvX0_put_c0 12 (kvX0_put_c0 12 d k (1 : Int64)) k (kvX0_at 12 d k)) k (1 : Int64)) k (kvX0_at 12 (kvX0_put_c0 12 (kvX0_put_c0 12 d k (1 : Int64)) k (kvX0_at 12 d k)) k)) (0 : Int32) (kl_whO (kvX0_put_c0 12 (kvX0_put_c0 12 (kvX0_put_c0 12 u k (1 : Int32).toInt64) k (kvX0_at 12 u k)) k (0 : Int32).toInt64) (kvX0_put_c0 12 (kvX0_put_c0 12 (kvX0_put_c0 12 d k (1 : Int64)) k (kvX0_at 12 d k)) k (1 : Int64)) (0 : Int32) (kl_whO (kvX0_put_c0 12 (kvX0_put_c0 12 u k (1 : Int32).toInt64) k (kvX0_at 12 u k)) (kvX0_put_c0 12 (kvX0_put_c0 12 d k (1 : Int64)) k (kvX0_at 12 d k)) (0 : Int32) (kl_whO (kvX0_put_c0 12 u k (1 : Int32).toInt64) (kvX0_put_c0 12 d k (1 : Int64)) (0 : Int32) lw 6) 6) 6) 6 = kvX0_influence_lw u d lw fn qn q k pt from (by unfold kvX0_influence_lw; rw [if_neg c_5, if_neg c_13, if_neg c_20]))) hP
        have hP := Eq.mp (congrArg (fun z9 => va_P D vwCl (xW cJ h a1 a2 a3 a4 a5 (kvX0_influence_u u fn qn q k pt) (kvX0_influence_d d fn qn q k pt) (kvX0_influence_lw u d lw fn qn q k pt) z9 an (nI fn) (nI qn) sd) H) (show kl_whO (kvX0_put_c0 12 (kvX0_put_c0 12 (kvX0_put_c0 12 (kvX0_put_c0 12 u k (1 : Int32).toInt64) k (kvX0_at 12 u k)) k (0 : Int32).toInt64) k (kvX0_at 12 (kvX0_put_c0 12 (kvX0_put_c0 12 u k (1 : Int32).toInt64) k (kvX0_at 12 u k)) k)) (kvX0_put_c0 12 (kvX0_put_c0 12 (kvX0_put_c0 12 (kvX0_put_c0 12 d k (1 : Int64)) k (kvX0_at 12 d k)) k (1 : Int64)) k (kvX0_at 12 (kvX0_put_c0 12 (kvX0_put_c0 12 d k (1 : Int64)) k (kvX0_at 12 d k)) k)) (nI 6) (kl_whO (kvX0_put_c0 12 (kvX0_put_c0 12 (kvX0_put_c0 12 u k (1 : Int32).toInt64) k (kvX0_at 12 u k)) k (0 : Int32).toInt64) (kvX0_put_c0 12 (kvX0_put_c0 12 (kvX0_put_c0 12 d k (1 : Int64)) k (kvX0_at 12 d k)) k (1 : Int64)) (nI 6) (kl_whO (kvX0_put_c0 12 (kvX0_put_c0 12 u k (1 : Int32).toInt64) k (kvX0_at 12 u k)) (kvX0_put_c0 12 (kvX0_put_c0 12 d k (1 : Int64)) k (kvX0_at 12 d k)) (nI 6) (kl_whO (kvX0_put_c0 12 u k (1 : Int32).toInt64) (kvX0_put_c0 12 d k (1 : Int64)) (nI 6) uw 6) 6) 6) 6 = kvX0_influence_uw u d uw fn qn q k pt from (by unfold kvX0_influence_uw; rw [if_neg c_5, if_neg c_13, if_neg c_20]))) hP
        have hP : va_P D vwCl (xW cJ h a1 a2 a3 a4 a5 (kvX0_influence_u u fn qn q k pt) (kvX0_influence_d d fn qn q k pt) (kvX0_influence_lw u d lw fn qn q k pt) (kvX0_influence_uw u d uw fn qn q k pt) an (nI fn) (nI qn) sd) H := hP
        have hD : va_D _ (xW cJ h a1 a2 a3 a4 a5 (kvX0_influence_u u fn qn q k pt) (kvX0_influence_d d fn qn q k pt) (kvX0_influence_lw u d lw fn qn q k pt) (kvX0_influence_uw u d uw fn qn q k pt) an (nI fn) (nI qn) sd) := oo_Dre hD (oo_fc (oo_fc (oo_fc (oo_fc (oo_fc (oo_fc rfl))))))
        exact mu_retl hx hb hr hlocks hP hD hS (by unfold kvX0_influence; rw [if_neg c_5, if_neg c_13, if_neg c_20]) dX0_influence_53
      · refine lv_lconst (v := (0 : Int64)) hx hb dX0_influence_23 (by decide) ?_
        have hP := Eq.mp (congrArg (fun z9 => va_P D vwCl (xW cJ h a1 a2 a3 a4 a5 z9 d lw uw an (nI fn) (nI qn) sd) H) (show u = kvX0_influence_u u fn qn q k pt from (by unfold kvX0_influence_u; rw [if_neg c_5, if_neg c_13, if_pos c_20]))) hP
        have hP := Eq.mp (congrArg (fun z9 => va_P D vwCl (xW cJ h a1 a2 a3 a4 a5 (kvX0_influence_u u fn qn q k pt) z9 lw uw an (nI fn) (nI qn) sd) H) (show d = kvX0_influence_d d fn qn q k pt from (by unfold kvX0_influence_d; rw [if_neg c_5, if_neg c_13, if_pos c_20]))) hP
        have hP := Eq.mp (congrArg (fun z9 => va_P D vwCl (xW cJ h a1 a2 a3 a4 a5 (kvX0_influence_u u fn qn q k pt) (kvX0_influence_d d fn qn q k pt) z9 uw an (nI fn) (nI qn) sd) H) (show lw = kvX0_influence_lw u d lw fn qn q k pt from (by unfold kvX0_influence_lw; rw [if_neg c_5, if_neg c_13, if_pos c_20]))) hP
        have hP := Eq.mp (congrArg (fun z9 => va_P D vwCl (xW cJ h a1 a2 a3 a4 a5 (kvX0_influence_u u fn qn q k pt) (kvX0_influence_d d fn qn q k pt) (kvX0_influence_lw u d lw fn qn q k pt) z9 an (nI fn) (nI qn) sd) H) (show uw = kvX0_influence_uw u d uw fn qn q k pt from (by unfold kvX0_influence_uw; rw [if_neg c_5, if_neg c_13, if_pos c_20]))) hP
        have hP : va_P D vwCl (xW cJ h a1 a2 a3 a4 a5 (kvX0_influence_u u fn qn q k pt) (kvX0_influence_d d fn qn q k pt) (kvX0_influence_lw u d lw fn qn q k pt) (kvX0_influence_uw u d uw fn qn q k pt) an (nI fn) (nI qn) sd) H := hP
        have hD : va_D _ (xW cJ h a1 a2 a3 a4 a5 (kvX0_influence_u u fn qn q k pt) (kvX0_influence_d d fn qn q k pt) (kvX0_influence_lw u d lw fn qn q k pt) (kvX0_influence_uw u d uw fn qn q k pt) an (nI fn) (nI qn) sd) := oo_Dre hD (oo_fc (oo_fc (oo_fc (oo_fc (oo_fc (oo_fc rfl))))))
        exact mu_retl hx hb hr hlocks hP hD hS (by unfold kvX0_influence; rw [if_neg c_5, if_neg c_13, if_pos c_20]) dX0_influence_24
theorem ok_X0_likeliest : yX0_likeliest.cls = RX0 ∧ yX0_likeliest.cls ≠ "java/lang/invoke/MethodHandle" ∧ yX0_likeliest.cls ≠ "java/lang/invoke/VarHandle" ∧ (parseMethodDescriptor yX0_likeliest.desc).map (fun d => d.parameters.length) = some 1 := by decide +kernel
def kvX0_likeliest (lw : Nat → Int64) (uw : Nat → Int64) (an : Nat → Int64) (fn : Nat) (qn : Nat) (q : Int32) : Int32 := if (kvX0_isQuestion qn q) = 0 then (-1 : Int32) else (kvX0_likeliestWorld lw uw an fn qn q)
set_option maxHeartbeats 4000000 in
set_option maxRecDepth 100000 in
theorem kX0_likeliest (l : Launch) (D : va_G) (cJ : ClassId) (h a1 a2 a3 a4 a5 : Nat) (u d lw uw an : Nat → Int64) (fn qn : Nat) (sd : Int64) (q : Int32) (hfn : fn ≤ 12) : RoI l yX0_likeliest wsX0_likeliest ({ frames := 4, cells := 0, slots := 0, locals := 93 } : Room) [.ref h, .int q] D (xW cJ h a1 a2 a3 a4 a5 u d lw uw an (nI fn) (nI qn) sd) [(cJ, .long)] (kvX0_likeliest lw uw an fn qn q) := by
  refine oo_head (C := RX0) (cc := cX0_likeliest) (maxL := 2) (ret := (some .int)) (by decide) rfl rfl (Nat.le_of_ble_eq_true rfl) ?_
  intro p e s m below meth c hx hb hr hlocks hml hown hnm hts hpre ls hl
  have hl : lv_has ls 2 [(0, .ref h), (1, .int q)] := hl
  obtain ⟨hP, hK⟩ := hpre
  have hS : va_S oo_N s.heap s.heap [] := va_S.rf
  have hin : ∀ w ∈ wsX00, w ∈ wsX0_likeliest := fun w h => List.mem_cons_of_mem _ (List.mem_append_right _ h)
  refine lv_aload_n hx hb dX0_likeliest_0 rfl (lv_at hl 0 rfl) ?_
  refine lv_iload_n hx hb dX0_likeliest_1 rfl (lv_at hl 1 rfl) ?_
  refine ro_calli (va_runV (As := [.int q]) (rest := []) ⟨hx, hb, hml, hown, hts⟩ (kX0_isQuestion l D cJ h a1 a2 a3 a4 a5 u d lw uw an fn qn sd q) (cwV 1 hts gX0_likeliest_X0_isQuestion rfl rfl rfl ok_X0_isQuestion ⟨Nat.le_of_ble_eq_true rfl, Nat.le_of_ble_eq_true rfl⟩) ⟨oo_blind, va_recv hK hP (ci := 0) (q0 := 0) rfl rfl, oo_ps hP hK [0, 1, 2, 3, 4, 5] rfl [0] rfl⟩ rfl rfl hl.1 rfl (lv_room (Nat.le_of_ble_eq_true rfl)) dX0_likeliest_2 ⟨Nat.le_of_ble_eq_true rfl, Nat.le_of_ble_eq_true rfl⟩) hP hS (fun H locs hP hS => ?_)
  refine lv_if_ne (tgt := 10) hx hb dX0_likeliest_5 (by decide) (fun c_5 => ?_) (fun c_5 => ?_)
  · refine lv_aload_n hx hb dX0_likeliest_10 rfl (lv_at hl 0 rfl) ?_
    refine lv_iload_n hx hb dX0_likeliest_11 rfl (lv_at hl 1 rfl) ?_
    refine ro_calli (va_runV (As := [.int q]) (rest := []) ⟨hx, hb, hml, hown, hts⟩ (kX0_likeliestWorld l D cJ h a1 a2 a3 a4 a5 u d lw uw an fn qn sd q hfn) (cwV 1 hts gX0_likeliest_X0_likeliestWorld rfl rfl rfl ok_X0_likeliestWorld ⟨Nat.le_of_ble_eq_true rfl, Nat.le_of_ble_eq_true rfl⟩) ⟨oo_blind, va_recv hK hP (ci := 0) (q0 := 0) rfl rfl, oo_ps hP hK [0, 1, 2, 3, 4, 5] rfl [0] rfl⟩ rfl rfl hl.1 rfl (lv_room (Nat.le_of_ble_eq_true rfl)) dX0_likeliest_12 ⟨Nat.le_of_ble_eq_true rfl, Nat.le_of_ble_eq_true rfl⟩) hP hS (fun H locs hP hS => ?_)
    exact ro_reti hx hb hr hlocks hS (by unfold kvX0_likeliest; rw [if_neg c_5]) dX0_likeliest_15
  · refine lv_iconst (v := (-1 : Int32)) hx hb dX0_likeliest_8 (by decide) ?_
    exact ro_reti hx hb hr hlocks hS (by unfold kvX0_likeliest; rw [if_pos c_5]) dX0_likeliest_9
theorem ok_X0_weight : yX0_weight.cls = RX0 ∧ yX0_weight.cls ≠ "java/lang/invoke/MethodHandle" ∧ yX0_weight.cls ≠ "java/lang/invoke/VarHandle" ∧ (parseMethodDescriptor yX0_weight.desc).map (fun d => d.parameters.length) = some 1 := by decide +kernel
def kvX0_weight (lw : Nat → Int64) (uw : Nat → Int64) (an : Nat → Int64) (fn : Nat) (qn : Nat) (q : Int32) : Int64 := if (kvX0_isQuestion qn q) = 0 then (0 : Int64) else (if (kvX0_likeliestWorld lw uw an fn qn q) = (-2 : Int32) then (0 : Int64) else (kvX0_weightOf lw uw (kvX0_likeliestWorld lw uw an fn qn q)))
set_option maxHeartbeats 4000000 in
set_option maxRecDepth 100000 in
theorem kX0_weight (l : Launch) (D : va_G) (cJ : ClassId) (h a1 a2 a3 a4 a5 : Nat) (u d lw uw an : Nat → Int64) (fn qn : Nat) (sd : Int64) (q : Int32) (hfn : fn ≤ 12) : RoL l yX0_weight wsX0_weight ({ frames := 4, cells := 0, slots := 0, locals := 93 } : Room) [.ref h, .int q] D (xW cJ h a1 a2 a3 a4 a5 u d lw uw an (nI fn) (nI qn) sd) [(cJ, .long)] (kvX0_weight lw uw an fn qn q) := by
  refine oo_head (C := RX0) (cc := cX0_weight) (maxL := 3) (ret := (some .long)) (by decide) rfl rfl (Nat.le_of_ble_eq_true rfl) ?_
  intro p e s m below meth c hx hb hr hlocks hml hown hnm hts hpre ls hl
  have hl : lv_has ls 3 [(0, .ref h), (1, .int q)] := hl
  obtain ⟨hP, hK⟩ := hpre
  have hS : va_S oo_N s.heap s.heap [] := va_S.rf
  have hin : ∀ w ∈ wsX00, w ∈ wsX0_weight := fun w h => List.mem_cons_of_mem _ (List.mem_append_right _ h)
  refine lv_aload_n hx hb dX0_weight_0 rfl (lv_at hl 0 rfl) ?_
  refine lv_iload_n hx hb dX0_weight_1 rfl (lv_at hl 1 rfl) ?_
  refine ro_calli (va_runV (As := [.int q]) (rest := []) ⟨hx, hb, hml, hown, hts⟩ (kX0_isQuestion l D cJ h a1 a2 a3 a4 a5 u d lw uw an fn qn sd q) (cwV 1 hts gX0_weight_X0_isQuestion rfl rfl rfl ok_X0_isQuestion ⟨Nat.le_of_ble_eq_true rfl, Nat.le_of_ble_eq_true rfl⟩) ⟨oo_blind, va_recv hK hP (ci := 0) (q0 := 0) rfl rfl, oo_ps hP hK [0, 1, 2, 3, 4, 5] rfl [0] rfl⟩ rfl rfl hl.1 rfl (lv_room (Nat.le_of_ble_eq_true rfl)) dX0_weight_2 ⟨Nat.le_of_ble_eq_true rfl, Nat.le_of_ble_eq_true rfl⟩) hP hS (fun H locs hP hS => ?_)
  refine lv_if_ne (tgt := 10) hx hb dX0_weight_5 (by decide) (fun c_5 => ?_) (fun c_5 => ?_)
  · refine lv_aload_n hx hb dX0_weight_10 rfl (lv_at hl 0 rfl) ?_
    refine lv_iload_n hx hb dX0_weight_11 rfl (lv_at hl 1 rfl) ?_
    refine ro_calli (va_runV (As := [.int q]) (rest := []) ⟨hx, hb, hml, hown, hts⟩ (kX0_likeliestWorld l D cJ h a1 a2 a3 a4 a5 u d lw uw an fn qn sd q hfn) (cwV 1 hts gX0_weight_X0_likeliestWorld rfl rfl rfl ok_X0_likeliestWorld ⟨Nat.le_of_ble_eq_true rfl, Nat.le_of_ble_eq_true rfl⟩) ⟨oo_blind, va_recv hK hP (ci := 0) (q0 := 0) rfl rfl, oo_ps hP hK [0, 1, 2, 3, 4, 5] rfl [0] rfl⟩ rfl rfl hl.1 rfl (lv_room (Nat.le_of_ble_eq_true rfl)) dX0_weight_12 ⟨Nat.le_of_ble_eq_true rfl, Nat.le_of_ble_eq_true rfl⟩) hP hS (fun H locs hP hS => ?_)
    refine lv_istore_n (lv' := [(2, .int (kvX0_likeliestWorld lw uw an fn qn q)), (0, .ref h), (1, .int q)]) hx hb dX0_weight_15 rfl hl (by decide) rfl (fun ls hl => ?_)
    refine lv_iload_n hx hb dX0_weight_16 rfl (lv_at hl 0 rfl) ?_
    refine lv_bipush (v := (-2 : Int32)) hx hb dX0_weight_17 (by decide) ?_
    refine lv_icmp_ne (tgt := 26) hx hb dX0_weight_19 (by decide) (fun c_19 => ?_) (fun c_19 => ?_)
    · refine lv_aload_n hx hb dX0_weight_26 rfl (lv_at hl 1 rfl) ?_
      refine lv_iload_n hx hb dX0_weight_27 rfl (lv_at hl 0 rfl) ?_
      refine ro_calll (va_runV (As := [.int (kvX0_likeliestWorld lw uw an fn qn q)]) (rest := []) ⟨hx, hb, hml, hown, hts⟩ (kX0_weightOf l D cJ h a1 a2 a3 a4 a5 u d lw uw an fn qn sd (kvX0_likeliestWorld lw uw an fn qn q)) (cwV 1 hts gX0_weight_X0_weightOf rfl rfl rfl ok_X0_weightOf ⟨Nat.le_of_ble_eq_true rfl, Nat.le_of_ble_eq_true rfl⟩) ⟨oo_blind, va_recv hK hP (ci := 0) (q0 := 0) rfl rfl, oo_ps hP hK [0, 1, 2, 3, 4, 5] rfl [0] rfl⟩ rfl rfl hl.1 rfl (lv_room (Nat.le_of_ble_eq_true rfl)) dX0_weight_28 ⟨Nat.le_of_ble_eq_true rfl, Nat.le_of_ble_eq_true rfl⟩) hP hS (fun H locs hP hS => ?_)
      exact ro_retl hx hb hr hlocks hS (by unfold kvX0_weight; rw [if_neg c_5, if_neg c_19]) dX0_weight_31
    · refine lv_lconst (v := (0 : Int64)) hx hb dX0_weight_22 (by decide) ?_
      refine lv_goto (tgt := 31) hx hb dX0_weight_23 (by decide) ?_
      exact ro_retl hx hb hr hlocks hS (by unfold kvX0_weight; rw [if_neg c_5, if_pos c_19]) dX0_weight_31
  · refine lv_lconst (v := (0 : Int64)) hx hb dX0_weight_8 (by decide) ?_
    exact ro_retl hx hb hr hlocks hS (by unfold kvX0_weight; rw [if_pos c_5]) dX0_weight_9
def kl_wc (an : Nat → Int64) (qn : Nat) (q : Int32) : Nat → Int32
  | 0 => 0
  | n + 1 => kl_wc an qn q n + kvJ13_bitCount_95d88 (kvX0_blockOf an qn q (nI n))
theorem ok_X0_worlds : yX0_worlds.cls = RX0 ∧ yX0_worlds.cls ≠ "java/lang/invoke/MethodHandle" ∧ yX0_worlds.cls ≠ "java/lang/invoke/VarHandle" ∧ (parseMethodDescriptor yX0_worlds.desc).map (fun d => d.parameters.length) = some 1 := by decide +kernel
def kvX0_worlds (an : Nat → Int64) (fn : Nat) (qn : Nat) (q : Int32) : Int32 := if (kvX0_isQuestion qn q) = 0 then (-1 : Int32) else ((kl_wc an qn q 64) >>> (((nI 12) - (nI fn)) &&& 31))
set_option maxHeartbeats 4000000 in
set_option maxRecDepth 100000 in
theorem kX0_worlds (l : Launch) (D : va_G) (cJ : ClassId) (h a1 a2 a3 a4 a5 : Nat) (u d lw uw an : Nat → Int64) (fn qn : Nat) (sd : Int64) (q : Int32) : RoI l yX0_worlds wsX0_worlds ({ frames := 2, cells := 0, slots := 0, locals := 43 } : Room) [.ref h, .int q] D (xW cJ h a1 a2 a3 a4 a5 u d lw uw an (nI fn) (nI qn) sd) [(cJ, .long)] (kvX0_worlds an fn qn q) := by
  refine oo_head (C := RX0) (cc := cX0_worlds) (maxL := 4) (ret := (some .int)) (by decide) rfl rfl (Nat.le_of_ble_eq_true rfl) ?_
  intro p e s m below meth c hx hb hr hlocks hml hown hnm hts hpre ls hl
  have hl : lv_has ls 4 [(0, .ref h), (1, .int q)] := hl
  obtain ⟨hP, hK⟩ := hpre
  have hS : va_S oo_N s.heap s.heap [] := va_S.rf
  have hin : ∀ w ∈ wsX00, w ∈ wsX0_worlds := fun w h => List.mem_cons_of_mem _ (List.mem_append_right _ h)
  refine lv_aload_n hx hb dX0_worlds_0 rfl (lv_at hl 0 rfl) ?_
  refine lv_iload_n hx hb dX0_worlds_1 rfl (lv_at hl 1 rfl) ?_
  refine ro_calli (va_runV (As := [.int q]) (rest := []) ⟨hx, hb, hml, hown, hts⟩ (kX0_isQuestion l D cJ h a1 a2 a3 a4 a5 u d lw uw an fn qn sd q) (cwV 1 hts gX0_worlds_X0_isQuestion rfl rfl rfl ok_X0_isQuestion ⟨Nat.le_of_ble_eq_true rfl, Nat.le_of_ble_eq_true rfl⟩) ⟨oo_blind, va_recv hK hP (ci := 0) (q0 := 0) rfl rfl, oo_ps hP hK [0, 1, 2, 3, 4, 5] rfl [0] rfl⟩ rfl rfl hl.1 rfl (lv_room (Nat.le_of_ble_eq_true rfl)) dX0_worlds_2 ⟨Nat.le_of_ble_eq_true rfl, Nat.le_of_ble_eq_true rfl⟩) hP hS (fun H locs hP hS => ?_)
  refine lv_if_ne (tgt := 10) hx hb dX0_worlds_5 (by decide) (fun c_5 => ?_) (fun c_5 => ?_)
  · refine lv_iconst (v := (0 : Int32)) hx hb dX0_worlds_10 (by decide) ?_
    refine lv_istore_n (lv' := [(2, .int (0 : Int32)), (0, .ref h), (1, .int q)]) hx hb dX0_worlds_11 rfl hl (by decide) rfl (fun ls hl => ?_)
    refine lv_iconst (v := nI 0) hx hb dX0_worlds_12 (by decide) ?_
    refine lv_istore_n (lv' := [(3, .int (nI 0)), (2, .int (0 : Int32)), (0, .ref h), (1, .int q)]) hx hb dX0_worlds_13 rfl hl (by decide) rfl (fun ls hl => ?_)
    have hl : lv_has ls 4 [(0, .ref h), (1, .int q), (2, .int (0 : Int32)), (3, .int (nI 0))] := lv_sub hl [2, 3, 1, 0] rfl
    have hl := Eq.mp (congrArg (fun z9 => lv_has ls 4 [(0, .ref h), (1, .int q), (2, .int z9), (3, .int (nI 0))]) (show (0 : Int32) = kl_wc an qn q 0 from (by first | (simp only [kl_wc]; done) | (simp only [kl_wc]; rw [if_neg c_5])))) hl
    refine oo_loop (N := 64) (fun n H locs ls => va_P D vwCl (xW cJ h a1 a2 a3 a4 a5 u d lw uw an (nI fn) (nI qn) sd) H ∧ va_S (oo_N) s.heap H locs ∧ lv_has ls 4 [(0, .ref h), (1, .int q), (2, .int (kl_wc an qn q n)), (3, .int (nI n))]) ?_ ?_ 0 (Nat.zero_le _) ⟨hP, hS, hl⟩
    · intro H locs ls hI
      obtain ⟨hP, hS, hl⟩ := hI
      refine lv_iload_n hx hb dX0_worlds_14 rfl (lv_at hl 3 rfl) ?_
      refine lv_bipush (v := nI 64) hx hb dX0_worlds_15 (by decide) ?_
      refine lv_icmp_ge (tgt := 38) hx hb dX0_worlds_17 (by decide) (fun c_17 => ?_) (fun c_17 => ?_)
      · refine lv_iload_n hx hb dX0_worlds_38 rfl (lv_at hl 2 rfl) ?_
        refine lv_bipush (v := nI 12) hx hb dX0_worlds_39 (by decide) ?_
        refine lv_aload_n hx hb dX0_worlds_41 rfl (lv_at hl 0 rfl) ?_
        refine va_get (D := D) (ci := 0) (v := .int (nI fn)) (C := RX0) (T := TX0) (N := 8) hx hb hts hin hown hK hP 0 rfl rfl 5 (by decide) (hts (.fieldLink RX0 25 "OddsSampling" "factCount" "I") (by decide +kernel)) (fun _ h9 => h9) rfl dX0_worlds_42 ?_
        refine lv_isub hx hb dX0_worlds_45 ?_
        refine lv_ishr hx hb dX0_worlds_46 ?_
        exact ro_reti hx hb hr hlocks hS (by unfold kvX0_worlds; rw [if_neg c_5]) dX0_worlds_47
      · exact absurd (nI_le (Nat.le_refl _) (by omega)) c_17
    · intro n hltn ihn H locs ls hI
      obtain ⟨hP, hS, hl⟩ := hI
      refine lv_iload_n hx hb dX0_worlds_14 rfl (lv_at hl 3 rfl) ?_
      refine lv_bipush (v := nI 64) hx hb dX0_worlds_15 (by decide) ?_
      refine lv_icmp_ge (tgt := 38) hx hb dX0_worlds_17 (by decide) (fun c_17 => ?_) (fun c_17 => ?_)
      · exact absurd c_17 (nI_ge hltn (by omega))
      · refine lv_iload_n hx hb dX0_worlds_20 rfl (lv_at hl 2 rfl) ?_
        refine lv_aload_n hx hb dX0_worlds_21 rfl (lv_at hl 0 rfl) ?_
        refine lv_iload_n hx hb dX0_worlds_22 rfl (lv_at hl 1 rfl) ?_
        refine lv_iload_n hx hb dX0_worlds_23 rfl (lv_at hl 3 rfl) ?_
        refine ro_calll (va_runV (As := [.int q, .int (nI n)]) (rest := [.int (kl_wc an qn q n)]) ⟨hx, hb, hml, hown, hts⟩ (kX0_blockOf l D cJ h a1 a2 a3 a4 a5 u d lw uw an fn qn sd q (nI n)) (cwV 2 hts gX0_worlds_X0_blockOf rfl rfl rfl ok_X0_blockOf ⟨Nat.le_of_ble_eq_true rfl, Nat.le_of_ble_eq_true rfl⟩) ⟨oo_blind, va_recv hK hP (ci := 0) (q0 := 0) rfl rfl, oo_ps hP hK [0, 1, 2, 3, 4, 5] rfl [0] rfl⟩ rfl rfl hl.1 rfl (lv_room (Nat.le_of_ble_eq_true rfl)) dX0_worlds_24 ⟨Nat.le_of_ble_eq_true rfl, Nat.le_of_ble_eq_true rfl⟩) hP hS (fun H locs hP hS => ?_)
        refine ro_calli (va_runS (As := [.long (kvX0_blockOf an qn q (nI n))]) (rest := [.int (kl_wc an qn q n)]) ⟨hx, hb, hml, hown, hts⟩ (kJ13_bitCount_95d88 l D (kvX0_blockOf an qn q (nI n))) (va_cwS 1 hts gX0_worlds_J13_bitCount_95d88 rfl rfl rfl ok_J13_bitCount_95d88 ⟨Nat.le_of_ble_eq_true rfl, Nat.le_of_ble_eq_true rfl⟩) ⟨oo_blind, oo_ps hP hK [] rfl [] rfl⟩ rfl rfl hl.1 rfl (lv_room (Nat.le_of_ble_eq_true rfl)) dX0_worlds_27 ⟨Nat.le_of_ble_eq_true rfl, Nat.le_of_ble_eq_true rfl⟩) hP hS (fun H locs hP hS => ?_)
        refine lv_iadd hx hb dX0_worlds_30 ?_
        refine lv_istore_n (lv' := [(2, .int ((kl_wc an qn q n) + (kvJ13_bitCount_95d88 (kvX0_blockOf an qn q (nI n))))), (0, .ref h), (1, .int q), (3, .int (nI n))]) hx hb dX0_worlds_31 rfl hl (by decide) rfl (fun ls hl => ?_)
        refine lv_iinc (v := nI (n + 1)) (lv' := [(3, .int (nI (n + 1))), (2, .int ((kl_wc an qn q n) + (kvJ13_bitCount_95d88 (kvX0_blockOf an qn q (nI n))))), (0, .ref h), (1, .int q)]) hx hb dX0_worlds_32 hl (k := 3) rfl (oo_inc n 1) (by decide) rfl (fun ls hl => ?_)
        refine lv_goto (tgt := 14) hx hb dX0_worlds_35 (by decide) ?_
        have hl : lv_has ls 4 [(0, .ref h), (1, .int q), (2, .int ((kl_wc an qn q n) + (kvJ13_bitCount_95d88 (kvX0_blockOf an qn q (nI n))))), (3, .int (nI (n + 1)))] := lv_sub hl [2, 3, 1, 0] rfl
        have hl := Eq.mp (congrArg (fun z9 => lv_has ls 4 [(0, .ref h), (1, .int q), (2, .int z9), (3, .int (nI (n + 1)))]) (show (kl_wc an qn q n) + (kvJ13_bitCount_95d88 (kvX0_blockOf an qn q (nI n))) = kl_wc an qn q (n + 1) from (by simp only [kl_wc]))) hl
        exact ihn _ _ _ ⟨hP, hS, hl⟩
  · refine lv_iconst (v := (-1 : Int32)) hx hb dX0_worlds_8 (by decide) ?_
    exact ro_reti hx hb hr hlocks hS (by unfold kvX0_worlds; rw [if_pos c_5]) dX0_worlds_9
def kvX0_same (an : Nat → Int64) (qn : Nat) (q r : Int32) : Int32 := if kvX0_isQuestion qn q = 0 then -1 else (if kvX0_isQuestion qn r = 0 then -1 else (if (∀ k : Nat, k < 64 → lg_cmp (kvX0_blockOf an qn q (nI k)) (kvX0_blockOf an qn r (nI k)) = 0) then 1 else 0))
end
section
theorem ok_X0_same : yX0_same.cls = RX0 ∧ yX0_same.cls ≠ "java/lang/invoke/MethodHandle" ∧ yX0_same.cls ≠ "java/lang/invoke/VarHandle" ∧ (parseMethodDescriptor yX0_same.desc).map (fun d => d.parameters.length) = some 2 := by decide +kernel
set_option maxHeartbeats 4000000 in
set_option maxRecDepth 100000 in
theorem kX0_same (l : Launch) (D : va_G) (cJ : ClassId) (h a1 a2 a3 a4 a5 : Nat) (u d lw uw an : Nat → Int64) (fn qn : Nat) (sd : Int64) (q : Int32) (r : Int32) : RoI l yX0_same wsX0_same ({ frames := 2, cells := 0, slots := 0, locals := 43 } : Room) [.ref h, .int q, .int r] D (xW cJ h a1 a2 a3 a4 a5 u d lw uw an (nI fn) (nI qn) sd) [(cJ, .long)] (kvX0_same an qn q r) := by
  refine oo_head (C := RX0) (cc := cX0_same) (maxL := 4) (ret := (some .int)) (by decide) rfl rfl (Nat.le_of_ble_eq_true rfl) ?_
  intro p e s m below meth c hx hb hr hlocks hml hown hnm hts hpre ls hl
  have hl : lv_has ls 4 [(0, .ref h), (1, .int q), (2, .int r)] := hl
  obtain ⟨hP, hK⟩ := hpre
  have hS : va_S oo_N s.heap s.heap [] := va_S.rf
  have hin : ∀ w ∈ wsX00, w ∈ wsX0_same := fun w h => List.mem_cons_of_mem _ (List.mem_append_right _ h)
  refine lv_aload_n hx hb dX0_same_0 rfl (lv_at hl 0 rfl) ?_
  refine lv_iload_n hx hb dX0_same_1 rfl (lv_at hl 1 rfl) ?_
  refine ro_calli (va_runV (As := [.int q]) (rest := []) ⟨hx, hb, hml, hown, hts⟩ (kX0_isQuestion l D cJ h a1 a2 a3 a4 a5 u d lw uw an fn qn sd q) (cwV 1 hts gX0_same_X0_isQuestion rfl rfl rfl ok_X0_isQuestion ⟨Nat.le_of_ble_eq_true rfl, Nat.le_of_ble_eq_true rfl⟩) ⟨oo_blind, va_recv hK hP (ci := 0) (q0 := 0) rfl rfl, oo_ps hP hK [0, 1, 2, 3, 4, 5] rfl [0] rfl⟩ rfl rfl hl.1 rfl (lv_room (Nat.le_of_ble_eq_true rfl)) dX0_same_2 ⟨Nat.le_of_ble_eq_true rfl, Nat.le_of_ble_eq_true rfl⟩) hP hS (fun H locs hP hS => ?_)
  refine lv_if_eq (tgt := 16) hx hb dX0_same_5 (by decide) (fun c_5 => ?_) (fun c_5 => ?_)
  · refine lv_iconst (v := (-1 : Int32)) hx hb dX0_same_16 (by decide) ?_
    exact ro_reti hx hb hr hlocks hS (by unfold kvX0_same; rw [if_pos c_5]) dX0_same_17
  · refine lv_aload_n hx hb dX0_same_8 rfl (lv_at hl 0 rfl) ?_
    refine lv_iload_n hx hb dX0_same_9 rfl (lv_at hl 2 rfl) ?_
    refine ro_calli (va_runV (As := [.int r]) (rest := []) ⟨hx, hb, hml, hown, hts⟩ (kX0_isQuestion l D cJ h a1 a2 a3 a4 a5 u d lw uw an fn qn sd r) (cwV 1 hts gX0_same_X0_isQuestion rfl rfl rfl ok_X0_isQuestion ⟨Nat.le_of_ble_eq_true rfl, Nat.le_of_ble_eq_true rfl⟩) ⟨oo_blind, va_recv hK hP (ci := 0) (q0 := 0) rfl rfl, oo_ps hP hK [0, 1, 2, 3, 4, 5] rfl [0] rfl⟩ rfl rfl hl.1 rfl (lv_room (Nat.le_of_ble_eq_true rfl)) dX0_same_10 ⟨Nat.le_of_ble_eq_true rfl, Nat.le_of_ble_eq_true rfl⟩) hP hS (fun H locs hP hS => ?_)
    refine lv_if_ne (tgt := 18) hx hb dX0_same_13 (by decide) (fun c_13 => ?_) (fun c_13 => ?_)
    · refine lv_iconst (v := nI 0) hx hb dX0_same_18 (by decide) ?_
      refine lv_istore_n (lv' := [(3, .int (nI 0)), (0, .ref h), (1, .int q), (2, .int r)]) hx hb dX0_same_19 rfl hl (by decide) rfl (fun ls hl => ?_)
      have hl : lv_has ls 4 [(0, .ref h), (1, .int q), (2, .int r), (3, .int (nI 0))] := lv_sub hl [1, 2, 3, 0] rfl
      refine oo_loop (N := 64) (fun n H locs ls => va_P D vwCl (xW cJ h a1 a2 a3 a4 a5 u d lw uw an (nI fn) (nI qn) sd) H ∧ va_S (oo_N) s.heap H locs ∧ lv_has ls 4 [(0, .ref h), (1, .int q), (2, .int r), (3, .int (nI n))] ∧ ∀ k : Nat, k < n → lg_cmp (kvX0_blockOf an qn q (nI k)) (kvX0_blockOf an qn r (nI k)) = 0) ?_ ?_ 0 (Nat.zero_le _) ⟨hP, hS, hl, lt_0⟩
      · intro H locs ls hI
        obtain ⟨hP, hS, hl, hE⟩ := hI
        refine lv_iload_n hx hb dX0_same_20 rfl (lv_at hl 3 rfl) ?_
        refine lv_bipush (v := nI 64) hx hb dX0_same_21 (by decide) ?_
        refine lv_icmp_ge (tgt := 50) hx hb dX0_same_23 (by decide) (fun c_23 => ?_) (fun c_23 => ?_)
        · refine lv_iconst (v := (1 : Int32)) hx hb dX0_same_50 (by decide) ?_
          exact ro_reti hx hb hr hlocks hS (by unfold kvX0_same; rw [if_neg c_5, if_neg c_13, if_pos hE]) dX0_same_51
        · exact absurd (nI_le (Nat.le_refl _) (by omega)) c_23
      · intro n hltn ihn H locs ls hI
        obtain ⟨hP, hS, hl, hE⟩ := hI
        refine lv_iload_n hx hb dX0_same_20 rfl (lv_at hl 3 rfl) ?_
        refine lv_bipush (v := nI 64) hx hb dX0_same_21 (by decide) ?_
        refine lv_icmp_ge (tgt := 50) hx hb dX0_same_23 (by decide) (fun c_23 => ?_) (fun c_23 => ?_)
        · exact absurd c_23 (nI_ge hltn (by omega))
        · refine lv_aload_n hx hb dX0_same_26 rfl (lv_at hl 0 rfl) ?_
          refine lv_iload_n hx hb dX0_same_27 rfl (lv_at hl 1 rfl) ?_
          refine lv_iload_n hx hb dX0_same_28 rfl (lv_at hl 3 rfl) ?_
          refine ro_calll (va_runV (As := [.int q, .int (nI n)]) (rest := []) ⟨hx, hb, hml, hown, hts⟩ (kX0_blockOf l D cJ h a1 a2 a3 a4 a5 u d lw uw an fn qn sd q (nI n)) (cwV 2 hts gX0_same_X0_blockOf rfl rfl rfl ok_X0_blockOf ⟨Nat.le_of_ble_eq_true rfl, Nat.le_of_ble_eq_true rfl⟩) ⟨oo_blind, va_recv hK hP (ci := 0) (q0 := 0) rfl rfl, oo_ps hP hK [0, 1, 2, 3, 4, 5] rfl [0] rfl⟩ rfl rfl hl.1 rfl (lv_room (Nat.le_of_ble_eq_true rfl)) dX0_same_29 ⟨Nat.le_of_ble_eq_true rfl, Nat.le_of_ble_eq_true rfl⟩) hP hS (fun H locs hP hS => ?_)
          refine lv_aload_n hx hb dX0_same_32 rfl (lv_at hl 0 rfl) ?_
          refine lv_iload_n hx hb dX0_same_33 rfl (lv_at hl 2 rfl) ?_
          refine lv_iload_n hx hb dX0_same_34 rfl (lv_at hl 3 rfl) ?_
          refine ro_calll (va_runV (As := [.int r, .int (nI n)]) (rest := [.long (kvX0_blockOf an qn q (nI n))]) ⟨hx, hb, hml, hown, hts⟩ (kX0_blockOf l D cJ h a1 a2 a3 a4 a5 u d lw uw an fn qn sd r (nI n)) (cwV 2 hts gX0_same_X0_blockOf rfl rfl rfl ok_X0_blockOf ⟨Nat.le_of_ble_eq_true rfl, Nat.le_of_ble_eq_true rfl⟩) ⟨oo_blind, va_recv hK hP (ci := 0) (q0 := 0) rfl rfl, oo_ps hP hK [0, 1, 2, 3, 4, 5] rfl [0] rfl⟩ rfl rfl hl.1 rfl (lv_room (Nat.le_of_ble_eq_true rfl)) dX0_same_35 ⟨Nat.le_of_ble_eq_true rfl, Nat.le_of_ble_eq_true rfl⟩) hP hS (fun H locs hP hS => ?_)
          refine W.lcmp hx hb dX0_same_38 ?_
          refine lv_if_eq (tgt := 44) hx hb dX0_same_39 (by decide) (fun c_39 => ?_) (fun c_39 => ?_)
          · refine lv_iinc (v := nI (n + 1)) (lv' := [(3, .int (nI (n + 1))), (0, .ref h), (1, .int q), (2, .int r)]) hx hb dX0_same_44 hl (k := 3) rfl (oo_inc n 1) (by decide) rfl (fun ls hl => ?_)
            refine lv_goto (tgt := 20) hx hb dX0_same_47 (by decide) ?_
            have hl : lv_has ls 4 [(0, .ref h), (1, .int q), (2, .int r), (3, .int (nI (n + 1)))] := lv_sub hl [1, 2, 3, 0] rfl
            exact ihn _ _ _ ⟨hP, hS, hl, lt_s hE c_39⟩
          · refine lv_iconst (v := (0 : Int32)) hx hb dX0_same_42 (by decide) ?_
            exact ro_reti hx hb hr hlocks hS (by unfold kvX0_same; rw [if_neg c_5, if_neg c_13, if_neg (fun h => c_39 (h n hltn))]) dX0_same_43
    · refine lv_iconst (v := (-1 : Int32)) hx hb dX0_same_16 (by decide) ?_
      exact ro_reti hx hb hr hlocks hS (by unfold kvX0_same; rw [if_neg c_5, if_pos c_13]) dX0_same_17
def kl_lcg (sd : Int64) : Int64 := (sd * (25214903917 : Int64) + (11 : Int64)) &&& (281474976710655 : Int64)
end
section
theorem ok_X0_draw : yX0_draw.cls = RX0 ∧ yX0_draw.cls ≠ "java/lang/invoke/MethodHandle" ∧ yX0_draw.cls ≠ "java/lang/invoke/VarHandle" ∧ (parseMethodDescriptor yX0_draw.desc).map (fun d => d.parameters.length) = some 0 := by decide +kernel
def kvX0_draw (sd : Int64) : Int64 := ((kl_lcg sd).toUInt64 >>> ((nI 17).toInt64.toUInt64 &&& Int64.toUInt64 63)).toInt64
set_option maxHeartbeats 4000000 in
set_option maxRecDepth 100000 in
theorem kX0_draw (l : Launch) (D : va_G) (cJ : ClassId) (h a1 a2 a3 a4 a5 : Nat) (u d lw uw an : Nat → Int64) (fn qn : Nat) (sd : Int64)  : MuL l yX0_draw wsX0_draw ({ frames := 0, cells := 0, slots := 0, locals := 0 } : Room) [.ref h] D (xW cJ h a1 a2 a3 a4 a5 u d lw uw an (nI fn) (nI qn) sd) [(cJ, .long)] (xW cJ h a1 a2 a3 a4 a5 u d lw uw an (nI fn) (nI qn) (kl_lcg sd)) (kvX0_draw sd) := by
  intro sz
  refine oo_head (C := RX0) (cc := cX0_draw) (maxL := 1) (ret := (some .long)) (by decide) rfl rfl (Nat.le_of_ble_eq_true rfl) ?_
  intro p e s m below meth c hx hb hr hlocks hml hown hnm hts hpre ls hl
  have hl : lv_has ls 1 [(0, .ref h)] := hl
  obtain ⟨rfl, hP, hK, hD0⟩ := hpre
  have hD := hD0.self (sz := s.heap.size)
  have hA := oo_A (xW cJ h a1 a2 a3 a4 a5 u d lw uw an (nI fn) (nI qn) sd) s
  have hS : va_S (va_A (xW cJ h a1 a2 a3 a4 a5 u d lw uw an (nI fn) (nI qn) sd) s.heap.size) s.heap s.heap [] := va_S.rf
  have hin : ∀ w ∈ wsX00, w ∈ wsX0_draw := fun w h => List.mem_cons_of_mem _ (List.mem_append_right _ h)
  refine lv_aload_n hx hb dX0_draw_0 rfl (lv_at hl 0 rfl) ?_
  refine lv_aload_n hx hb dX0_draw_1 rfl (lv_at hl 0 rfl) ?_
  refine va_get (D := D) (ci := 0) (v := .long sd) (C := RX0) (T := TX0) (N := 8) hx hb hts hin hown hK hP 0 rfl rfl 7 (by decide) (hts (.fieldLink RX0 32 "OddsSampling" "lastSeed" "J") (by decide +kernel)) (fun _ h9 => h9) rfl dX0_draw_2 ?_
  refine lv_ldc2 hx hb hown (hts (.constantLong RX0 181 (25214903917)) (by decide +kernel)) dX0_draw_5 ?_
  refine lv_lmul hx hb dX0_draw_8 ?_
  refine lv_ldc2 hx hb hown (hts (.constantLong RX0 183 (11)) (by decide +kernel)) dX0_draw_9 ?_
  refine lv_ladd hx hb dX0_draw_12 ?_
  refine lv_ldc2 hx hb hown (hts (.constantLong RX0 141 (281474976710655)) (by decide +kernel)) dX0_draw_13 ?_
  refine lv_land hx hb dX0_draw_16 ?_
  refine oo_topL (y := kl_lcg sd) rfl ?_
  refine va_put (D := D) (ci := 0) (v := .long (kl_lcg sd)) (ty := .long) (C := RX0) (T := TX0) (N := 8) hx hb hts hin tyX0 tyX0_ok nmX0 hown hK hP hD hS 0 rfl rfl 7 (by decide) (hts (.fieldLink RX0 32 "OddsSampling" "lastSeed" "J") (by decide +kernel)) (fun _ h9 => h9) rfl (by decide +kernel) rfl rfl (Nat.le_of_ble_eq_true rfl) dX0_draw_17 (fun H locs hP hD hS => ?_)
  have hP : va_P D vwCl (xW cJ h a1 a2 a3 a4 a5 u d lw uw an (nI fn) (nI qn) (kl_lcg sd)) H := hP
  have hD : va_D _ (xW cJ h a1 a2 a3 a4 a5 u d lw uw an (nI fn) (nI qn) (kl_lcg sd)) := hD
  refine lv_aload_n hx hb dX0_draw_20 rfl (lv_at hl 0 rfl) ?_
  refine va_get (D := D) (ci := 0) (v := .long (kl_lcg sd)) (C := RX0) (T := TX0) (N := 8) hx hb hts hin hown hK hP 0 rfl rfl 7 (by decide) (hts (.fieldLink RX0 32 "OddsSampling" "lastSeed" "J") (by decide +kernel)) (fun _ h9 => h9) rfl dX0_draw_21 ?_
  refine lv_bipush (v := nI 17) hx hb dX0_draw_24 (by decide) ?_
  refine lv_lushr hx hb dX0_draw_26 rfl ?_
  exact mu_retl hx hb hr hlocks hP hD hS (by unfold kvX0_draw; rfl) dX0_draw_27
def kl_sds (sd : Int64) : Nat → Int64
  | 0 => sd
  | n + 1 => kl_lcg (kl_sds sd n)
def kl_dw (u d : Nat → Int64) (sd : Int64) : Nat → Int32
  | 0 => 0
  | n + 1 => if lg_cmp (kvX0_at 12 d (nI n)) 0 ≤ 0 then kl_dw u d sd n else (if 0 ≤ lg_cmp (kvX0_draw (kl_sds sd n) - kvX0_draw (kl_sds sd n) / kvX0_at 12 d (nI n) * kvX0_at 12 d (nI n)) (kvX0_at 12 u (nI n)) then kl_dw u d sd n else kl_dw u d sd n ||| ((1 : Int32) <<< (nI n &&& 31)))
theorem ok_X0_drawWorld : yX0_drawWorld.cls = RX0 ∧ yX0_drawWorld.cls ≠ "java/lang/invoke/MethodHandle" ∧ yX0_drawWorld.cls ≠ "java/lang/invoke/VarHandle" ∧ (parseMethodDescriptor yX0_drawWorld.desc).map (fun d => d.parameters.length) = some 0 := by decide +kernel
def kvX0_drawWorld (u : Nat → Int64) (d : Nat → Int64) (fn : Nat) (sd : Int64) : Int32 := kl_dw u d sd fn
set_option maxHeartbeats 4000000 in
set_option maxRecDepth 100000 in
theorem kX0_drawWorld (l : Launch) (D : va_G) (cJ : ClassId) (h a1 a2 a3 a4 a5 : Nat) (u d lw uw an : Nat → Int64) (fn qn : Nat) (sd : Int64)  (hfn : fn ≤ 12) : MuI l yX0_drawWorld wsX0_drawWorld ({ frames := 1, cells := 0, slots := 0, locals := 21 } : Room) [.ref h] D (xW cJ h a1 a2 a3 a4 a5 u d lw uw an (nI fn) (nI qn) sd) [(cJ, .long)] (xW cJ h a1 a2 a3 a4 a5 u d lw uw an (nI fn) (nI qn) (kl_sds sd fn)) (kvX0_drawWorld u d fn sd) := by
  intro sz
  refine oo_head (C := RX0) (cc := cX0_drawWorld) (maxL := 7) (ret := (some .int)) (by decide) rfl rfl (Nat.le_of_ble_eq_true rfl) ?_
  intro p e s m below meth c hx hb hr hlocks hml hown hnm hts hpre ls hl
  have hl : lv_has ls 7 [(0, .ref h)] := hl
  obtain ⟨rfl, hP, hK, hD0⟩ := hpre
  have hD := hD0.self (sz := s.heap.size)
  have hA := oo_A (xW cJ h a1 a2 a3 a4 a5 u d lw uw an (nI fn) (nI qn) sd) s
  have hS : va_S (va_A (xW cJ h a1 a2 a3 a4 a5 u d lw uw an (nI fn) (nI qn) sd) s.heap.size) s.heap s.heap [] := va_S.rf
  have hin : ∀ w ∈ wsX00, w ∈ wsX0_drawWorld := fun w h => List.mem_cons_of_mem _ (List.mem_append_right _ h)
  refine lv_iconst (v := (0 : Int32)) hx hb dX0_drawWorld_0 (by decide) ?_
  refine lv_istore_n (lv' := [(1, .int (0 : Int32)), (0, .ref h)]) hx hb dX0_drawWorld_1 rfl hl (by decide) rfl (fun ls hl => ?_)
  refine lv_iconst (v := nI 0) hx hb dX0_drawWorld_2 (by decide) ?_
  refine lv_istore_n (lv' := [(2, .int (nI 0)), (1, .int (0 : Int32)), (0, .ref h)]) hx hb dX0_drawWorld_3 rfl hl (by decide) rfl (fun ls hl => ?_)
  have hl : lv_has ls 7 [(0, .ref h), (1, .int (0 : Int32)), (2, .int (nI 0))] := lv_sub hl [2, 1, 0] rfl
  have hl := Eq.mp (congrArg (fun z9 => lv_has ls 7 [(0, .ref h), (1, .int z9), (2, .int (nI 0))]) (show (0 : Int32) = kl_dw u d sd 0 from (by simp only [kl_dw, kl_sds]))) hl
  have hP := Eq.mp (congrArg (fun z9 => va_P D vwCl (xW cJ h a1 a2 a3 a4 a5 u d lw uw an (nI fn) (nI qn) z9) s.heap) (show sd = kl_sds sd 0 from (by simp only [kl_dw, kl_sds]))) hP
  have hP : va_P D vwCl (xW cJ h a1 a2 a3 a4 a5 u d lw uw an (nI fn) (nI qn) (kl_sds sd 0)) s.heap := hP
  have hD : va_D _ (xW cJ h a1 a2 a3 a4 a5 u d lw uw an (nI fn) (nI qn) (kl_sds sd 0)) := oo_Dre hD (oo_fc (oo_fc (oo_fc (oo_fc (oo_fc (oo_fc rfl))))))
  refine oo_loop (N := fn) (fun n H locs ls => va_P D vwCl (xW cJ h a1 a2 a3 a4 a5 u d lw uw an (nI fn) (nI qn) (kl_sds sd n)) H ∧ va_D (va_A (xW cJ h a1 a2 a3 a4 a5 u d lw uw an (nI fn) (nI qn) sd) s.heap.size) (xW cJ h a1 a2 a3 a4 a5 u d lw uw an (nI fn) (nI qn) (kl_sds sd n)) ∧ va_S (va_A (xW cJ h a1 a2 a3 a4 a5 u d lw uw an (nI fn) (nI qn) sd) s.heap.size) s.heap H locs ∧ lv_has ls 7 [(0, .ref h), (1, .int (kl_dw u d sd n)), (2, .int (nI n))]) ?_ ?_ 0 (Nat.zero_le _) ⟨hP, hD, hS, hl⟩
  · intro H locs ls hI
    obtain ⟨hP, hD, hS, hl⟩ := hI
    refine lv_iload_n hx hb dX0_drawWorld_4 rfl (lv_at hl 2 rfl) ?_
    refine lv_aload_n hx hb dX0_drawWorld_5 rfl (lv_at hl 0 rfl) ?_
    refine va_get (D := D) (ci := 0) (v := .int (nI fn)) (C := RX0) (T := TX0) (N := 8) hx hb hts hin hown hK hP 0 rfl rfl 5 (by decide) (hts (.fieldLink RX0 25 "OddsSampling" "factCount" "I") (by decide +kernel)) (fun _ h9 => h9) rfl dX0_drawWorld_6 ?_
    refine lv_icmp_ge (tgt := 62) hx hb dX0_drawWorld_9 (by decide) (fun c_9 => ?_) (fun c_9 => ?_)
    · refine lv_iload_n hx hb dX0_drawWorld_62 rfl (lv_at hl 1 rfl) ?_
      exact mu_reti hx hb hr hlocks hP hD hS (by unfold kvX0_drawWorld; rfl) dX0_drawWorld_63
    · exact absurd (nI_le (Nat.le_refl _) (by omega)) c_9
  · intro n hltn ihn H locs ls hI
    obtain ⟨hP, hD, hS, hl⟩ := hI
    refine lv_iload_n hx hb dX0_drawWorld_4 rfl (lv_at hl 2 rfl) ?_
    refine lv_aload_n hx hb dX0_drawWorld_5 rfl (lv_at hl 0 rfl) ?_
    refine va_get (D := D) (ci := 0) (v := .int (nI fn)) (C := RX0) (T := TX0) (N := 8) hx hb hts hin hown hK hP 0 rfl rfl 5 (by decide) (hts (.fieldLink RX0 25 "OddsSampling" "factCount" "I") (by decide +kernel)) (fun _ h9 => h9) rfl dX0_drawWorld_6 ?_
    refine lv_icmp_ge (tgt := 62) hx hb dX0_drawWorld_9 (by decide) (fun c_9 => ?_) (fun c_9 => ?_)
    · exact absurd c_9 (nI_ge hltn (by omega))
    · refine lv_aload_n hx hb dX0_drawWorld_12 rfl (lv_at hl 0 rfl) ?_
      refine mu_calll (va_runV (As := []) (rest := []) ⟨hx, hb, hml, hown, hts⟩ (kX0_draw l D cJ h a1 a2 a3 a4 a5 u d lw uw an fn qn (kl_sds sd n) _) (cwV 0 hts gX0_drawWorld_X0_draw rfl rfl rfl ok_X0_draw ⟨Nat.le_of_ble_eq_true rfl, Nat.le_of_ble_eq_true rfl⟩) ⟨oo_blindM, va_recv hK hP (ci := 0) (q0 := 0) rfl rfl, oo_psM hP hD hK [0, 1, 2, 3, 4, 5] rfl rfl [0] rfl⟩ rfl rfl hl.1 rfl (lv_room (Nat.le_of_ble_eq_true rfl)) dX0_drawWorld_13 ⟨Nat.le_of_ble_eq_true rfl, Nat.le_of_ble_eq_true rfl⟩) hP hD hS hA [0, 1, 2, 3, 4, 5] rfl (oo_fc (oo_fc (oo_fc (oo_fc (oo_fc (oo_fc rfl)))))) (fun H locs hP hD hS => ?_)
      have hP : va_P D vwCl (xW cJ h a1 a2 a3 a4 a5 u d lw uw an (nI fn) (nI qn) (kl_lcg (kl_sds sd n))) H := hP
      have hD : va_D _ (xW cJ h a1 a2 a3 a4 a5 u d lw uw an (nI fn) (nI qn) (kl_lcg (kl_sds sd n))) := hD
      refine lv_lstore_n (lv' := [(3, .long (kvX0_draw (kl_sds sd n))), (0, .ref h), (1, .int (kl_dw u d sd n)), (2, .int (nI n))]) hx hb dX0_drawWorld_16 rfl hl (by decide) rfl (fun ls hl => ?_)
      refine lv_aload_n hx hb dX0_drawWorld_17 rfl (lv_at hl 1 rfl) ?_
      refine va_get (D := D) (ci := 0) (v := .ref a2) (C := RX0) (T := TX0) (N := 8) hx hb hts hin hown hK hP 0 rfl rfl 1 (by decide) (hts (.fieldLink RX0 13 "OddsSampling" "downs" "[J") (by decide +kernel)) (fun _ h9 => h9) rfl dX0_drawWorld_18 ?_
      refine lv_iload_n hx hb dX0_drawWorld_21 rfl (lv_at hl 3 rfl) ?_
      refine ro_calll (va_runS (As := [.ref a2, .int (nI n)]) (rest := []) ⟨hx, hb, hml, hown, hts⟩ (kX0_at l D cJ a2 12 d (nI n) (by omega)) (va_cwS 2 hts gX0_drawWorld_X0_at rfl rfl rfl ok_X0_at ⟨Nat.le_of_ble_eq_true rfl, Nat.le_of_ble_eq_true rfl⟩) ⟨oo_blind, oo_ps hP hK [2] rfl [0] rfl⟩ rfl rfl hl.1 rfl (lv_room (Nat.le_of_ble_eq_true rfl)) dX0_drawWorld_22 ⟨Nat.le_of_ble_eq_true rfl, Nat.le_of_ble_eq_true rfl⟩) hP hS (fun H locs hP hS => ?_)
      refine lv_lstore (lv' := [(5, .long (kvX0_at 12 d (nI n))), (3, .long (kvX0_draw (kl_sds sd n))), (0, .ref h), (1, .int (kl_dw u d sd n)), (2, .int (nI n))]) hx hb dX0_drawWorld_25 hl (by decide) rfl (fun ls hl => ?_)
      refine lv_lload hx hb dX0_drawWorld_27 (lv_at hl 0 rfl) ?_
      refine lv_lconst (v := (0 : Int64)) hx hb dX0_drawWorld_29 (by decide) ?_
      refine W.lcmp hx hb dX0_drawWorld_30 ?_
      refine lv_if_le (tgt := 56) hx hb dX0_drawWorld_31 (by decide) (fun c_31 => ?_) (fun c_31 => ?_)
      · refine lv_iinc (v := nI (n + 1)) (lv' := [(2, .int (nI (n + 1))), (5, .long (kvX0_at 12 d (nI n))), (3, .long (kvX0_draw (kl_sds sd n))), (0, .ref h), (1, .int (kl_dw u d sd n))]) hx hb dX0_drawWorld_56 hl (k := 4) rfl (oo_inc n 1) (by decide) rfl (fun ls hl => ?_)
        refine lv_goto (tgt := 4) hx hb dX0_drawWorld_59 (by decide) ?_
        have hl : lv_has ls 7 [(0, .ref h), (1, .int (kl_dw u d sd n)), (2, .int (nI (n + 1)))] := lv_sub hl [3, 4, 0] rfl
        have hl := Eq.mp (congrArg (fun z9 => lv_has ls 7 [(0, .ref h), (1, .int z9), (2, .int (nI (n + 1)))]) (show kl_dw u d sd n = kl_dw u d sd (n + 1) from (by first | (simp only [kl_dw, kl_sds]; done) | (simp only [kl_dw, kl_sds]; rw [if_pos c_31])))) hl
        have hP := Eq.mp (congrArg (fun z9 => va_P D vwCl (xW cJ h a1 a2 a3 a4 a5 u d lw uw an (nI fn) (nI qn) z9) H) (show kl_lcg (kl_sds sd n) = kl_sds sd (n + 1) from (by first | (simp only [kl_dw, kl_sds]; done) | (simp only [kl_dw, kl_sds]; rw [if_pos c_31])))) hP
        have hP : va_P D vwCl (xW cJ h a1 a2 a3 a4 a5 u d lw uw an (nI fn) (nI qn) (kl_sds sd (n + 1))) H := hP
        have hD : va_D _ (xW cJ h a1 a2 a3 a4 a5 u d lw uw an (nI fn) (nI qn) (kl_sds sd (n + 1))) := oo_Dre hD (oo_fc (oo_fc (oo_fc (oo_fc (oo_fc (oo_fc rfl))))))
        exact ihn _ _ _ ⟨hP, hD, hS, hl⟩
      · refine lv_lload_n hx hb dX0_drawWorld_34 rfl (lv_at hl 1 rfl) ?_
        refine lv_lload hx hb dX0_drawWorld_35 (lv_at hl 0 rfl) ?_
        refine lv_lrem hx hb dX0_drawWorld_37 (oo_nz c_31) ?_
        refine lv_aload_n hx hb dX0_drawWorld_38 rfl (lv_at hl 2 rfl) ?_
        refine va_get (D := D) (ci := 0) (v := .ref a1) (C := RX0) (T := TX0) (N := 8) hx hb hts hin hown hK hP 0 rfl rfl 0 (by decide) (hts (.fieldLink RX0 9 "OddsSampling" "ups" "[J") (by decide +kernel)) (fun _ h9 => h9) rfl dX0_drawWorld_39 ?_
        refine lv_iload_n hx hb dX0_drawWorld_42 rfl (lv_at hl 4 rfl) ?_
        refine ro_calll (va_runS (As := [.ref a1, .int (nI n)]) (rest := [.long ((kvX0_draw (kl_sds sd n)) - (kvX0_draw (kl_sds sd n)) / (kvX0_at 12 d (nI n)) * (kvX0_at 12 d (nI n)))]) ⟨hx, hb, hml, hown, hts⟩ (kX0_at l D cJ a1 12 u (nI n) (by omega)) (va_cwS 2 hts gX0_drawWorld_X0_at rfl rfl rfl ok_X0_at ⟨Nat.le_of_ble_eq_true rfl, Nat.le_of_ble_eq_true rfl⟩) ⟨oo_blind, oo_ps hP hK [1] rfl [0] rfl⟩ rfl rfl hl.1 rfl (lv_room (Nat.le_of_ble_eq_true rfl)) dX0_drawWorld_43 ⟨Nat.le_of_ble_eq_true rfl, Nat.le_of_ble_eq_true rfl⟩) hP hS (fun H locs hP hS => ?_)
        refine W.lcmp hx hb dX0_drawWorld_46 ?_
        refine lv_if_ge (tgt := 56) hx hb dX0_drawWorld_47 (by decide) (fun c_47 => ?_) (fun c_47 => ?_)
        · refine lv_iinc (v := nI (n + 1)) (lv' := [(2, .int (nI (n + 1))), (5, .long (kvX0_at 12 d (nI n))), (3, .long (kvX0_draw (kl_sds sd n))), (0, .ref h), (1, .int (kl_dw u d sd n))]) hx hb dX0_drawWorld_56 hl (k := 4) rfl (oo_inc n 1) (by decide) rfl (fun ls hl => ?_)
          refine lv_goto (tgt := 4) hx hb dX0_drawWorld_59 (by decide) ?_
          have hl : lv_has ls 7 [(0, .ref h), (1, .int (kl_dw u d sd n)), (2, .int (nI (n + 1)))] := lv_sub hl [3, 4, 0] rfl
          have hl := Eq.mp (congrArg (fun z9 => lv_has ls 7 [(0, .ref h), (1, .int z9), (2, .int (nI (n + 1)))]) (show kl_dw u d sd n = kl_dw u d sd (n + 1) from (by first | (simp only [kl_dw, kl_sds]; done) | (simp only [kl_dw, kl_sds]; rw [if_neg c_31, if_pos c_47])))) hl
          have hP := Eq.mp (congrArg (fun z9 => va_P D vwCl (xW cJ h a1 a2 a3 a4 a5 u d lw uw an (nI fn) (nI qn) z9) H) (show kl_lcg (kl_sds sd n) = kl_sds sd (n + 1) from (by first | (simp only [kl_dw, kl_sds]; done) | (simp only [kl_dw, kl_sds]; rw [if_neg c_31, if_pos c_47])))) hP
          have hP : va_P D vwCl (xW cJ h a1 a2 a3 a4 a5 u d lw uw an (nI fn) (nI qn) (kl_sds sd (n + 1))) H := hP
          have hD : va_D _ (xW cJ h a1 a2 a3 a4 a5 u d lw uw an (nI fn) (nI qn) (kl_sds sd (n + 1))) := oo_Dre hD (oo_fc (oo_fc (oo_fc (oo_fc (oo_fc (oo_fc rfl))))))
          exact ihn _ _ _ ⟨hP, hD, hS, hl⟩
        · refine lv_iload_n hx hb dX0_drawWorld_50 rfl (lv_at hl 3 rfl) ?_
          refine lv_iconst (v := (1 : Int32)) hx hb dX0_drawWorld_51 (by decide) ?_
          refine lv_iload_n hx hb dX0_drawWorld_52 rfl (lv_at hl 4 rfl) ?_
          refine lv_ishl hx hb dX0_drawWorld_53 ?_
          refine lv_ior hx hb dX0_drawWorld_54 ?_
          refine lv_istore_n (lv' := [(1, .int ((kl_dw u d sd n) ||| ((1 : Int32) <<< ((nI n) &&& 31)))), (5, .long (kvX0_at 12 d (nI n))), (3, .long (kvX0_draw (kl_sds sd n))), (0, .ref h), (2, .int (nI n))]) hx hb dX0_drawWorld_55 rfl hl (by decide) rfl (fun ls hl => ?_)
          refine lv_iinc (v := nI (n + 1)) (lv' := [(2, .int (nI (n + 1))), (1, .int ((kl_dw u d sd n) ||| ((1 : Int32) <<< ((nI n) &&& 31)))), (5, .long (kvX0_at 12 d (nI n))), (3, .long (kvX0_draw (kl_sds sd n))), (0, .ref h)]) hx hb dX0_drawWorld_56 hl (k := 4) rfl (oo_inc n 1) (by decide) rfl (fun ls hl => ?_)
          refine lv_goto (tgt := 4) hx hb dX0_drawWorld_59 (by decide) ?_
          have hl : lv_has ls 7 [(0, .ref h), (1, .int ((kl_dw u d sd n) ||| ((1 : Int32) <<< ((nI n) &&& 31)))), (2, .int (nI (n + 1)))] := lv_sub hl [4, 1, 0] rfl
          have hl := Eq.mp (congrArg (fun z9 => lv_has ls 7 [(0, .ref h), (1, .int z9), (2, .int (nI (n + 1)))]) (show (kl_dw u d sd n) ||| ((1 : Int32) <<< ((nI n) &&& 31)) = kl_dw u d sd (n + 1) from (by first | (simp only [kl_dw, kl_sds]; done) | (simp only [kl_dw, kl_sds]; rw [if_neg c_31, if_neg c_47])))) hl
          have hP := Eq.mp (congrArg (fun z9 => va_P D vwCl (xW cJ h a1 a2 a3 a4 a5 u d lw uw an (nI fn) (nI qn) z9) H) (show kl_lcg (kl_sds sd n) = kl_sds sd (n + 1) from (by first | (simp only [kl_dw, kl_sds]; done) | (simp only [kl_dw, kl_sds]; rw [if_neg c_31, if_neg c_47])))) hP
          have hP : va_P D vwCl (xW cJ h a1 a2 a3 a4 a5 u d lw uw an (nI fn) (nI qn) (kl_sds sd (n + 1))) H := hP
          have hD : va_D _ (xW cJ h a1 a2 a3 a4 a5 u d lw uw an (nI fn) (nI qn) (kl_sds sd (n + 1))) := oo_Dre hD (oo_fc (oo_fc (oo_fc (oo_fc (oo_fc (oo_fc rfl))))))
          exact ihn _ _ _ ⟨hP, hD, hS, hl⟩
def kl_samS (sd : Int64) (fn : Nat) : Nat → Int64
  | 0 => sd
  | n + 1 => kl_sds (kl_samS sd fn n) fn
def kl_samC (u d an : Nat → Int64) (fn qn : Nat) (q : Int32) (sd : Int64) : Nat → Int32
  | 0 => 0
  | n + 1 => if kvX0_isTrue an qn q (kvX0_drawWorld u d fn (kl_samS sd fn n)) = 0 then kl_samC u d an fn qn q sd n else kl_samC u d an fn qn q sd n + 1
theorem oo_cnt {x : Int32} (h : ¬ x < 0) : x = nI x.toNatClampNeg := by
  obtain ⟨j, hj, rfl⟩ := nI_of h
  rw [nI_clamp hj]
theorem oo_cntL {x : Int32} {M : Nat} (hM : M < 2 ^ 31) (h : ¬ x < 0) (h2 : x ≤ nI M) : x.toNatClampNeg ≤ M := by
  obtain ⟨j, hj, rfl⟩ := nI_of h
  rw [nI_clamp hj]
  exact (nI_leI hj hM).mp h2
theorem ok_X0_sample : yX0_sample.cls = RX0 ∧ yX0_sample.cls ≠ "java/lang/invoke/MethodHandle" ∧ yX0_sample.cls ≠ "java/lang/invoke/VarHandle" ∧ (parseMethodDescriptor yX0_sample.desc).map (fun d => d.parameters.length) = some 3 := by decide +kernel
def kvX0_sample (u : Nat → Int64) (d : Nat → Int64) (an : Nat → Int64) (fn : Nat) (qn : Nat) (q : Int32) (sd0 : Int64) (ws : Int32) : Int32 := if (kvX0_isQuestion qn q) = 0 then (-1 : Int32) else (if ws < 0 then (-1 : Int32) else (if ws ≤ (nI 200) then (kl_samC u d an fn qn q (sd0 &&& (281474976710655 : Int64)) ws.toNatClampNeg) else (-1 : Int32)))
def kvX0_sample_sd (fn : Nat) (qn : Nat) (sd : Int64) (q : Int32) (sd0 : Int64) (ws : Int32) : Int64 := if (kvX0_isQuestion qn q) = 0 then sd else (if ws < 0 then sd else (if ws ≤ (nI 200) then (kl_samS (sd0 &&& (281474976710655 : Int64)) fn ws.toNatClampNeg) else sd))
set_option maxHeartbeats 4000000 in
set_option maxRecDepth 100000 in
theorem kX0_sample (l : Launch) (D : va_G) (cJ : ClassId) (h a1 a2 a3 a4 a5 : Nat) (u d lw uw an : Nat → Int64) (fn qn : Nat) (sd : Int64) (q : Int32) (sd0 : Int64) (ws : Int32) (hfn : fn ≤ 12) : MuI l yX0_sample wsX0_sample ({ frames := 3, cells := 0, slots := 0, locals := 67 } : Room) [.ref h, .int q, .long sd0, .int ws] D (xW cJ h a1 a2 a3 a4 a5 u d lw uw an (nI fn) (nI qn) sd) [(cJ, .long)] (xW cJ h a1 a2 a3 a4 a5 u d lw uw an (nI fn) (nI qn) (kvX0_sample_sd fn qn sd q sd0 ws)) (kvX0_sample u d an fn qn q sd0 ws) := by
  intro sz
  refine oo_head (C := RX0) (cc := cX0_sample) (maxL := 7) (ret := (some .int)) (by decide) rfl rfl (Nat.le_of_ble_eq_true rfl) ?_
  intro p e s m below meth c hx hb hr hlocks hml hown hnm hts hpre ls hl
  have hl : lv_has ls 7 [(0, .ref h), (1, .int q), (2, .long sd0), (4, .int ws)] := hl
  obtain ⟨rfl, hP, hK, hD0⟩ := hpre
  have hD := hD0.self (sz := s.heap.size)
  have hA := oo_A (xW cJ h a1 a2 a3 a4 a5 u d lw uw an (nI fn) (nI qn) sd) s
  have hS : va_S (va_A (xW cJ h a1 a2 a3 a4 a5 u d lw uw an (nI fn) (nI qn) sd) s.heap.size) s.heap s.heap [] := va_S.rf
  have hin : ∀ w ∈ wsX00, w ∈ wsX0_sample := fun w h => List.mem_cons_of_mem _ (List.mem_append_right _ h)
  refine lv_aload_n hx hb dX0_sample_0 rfl (lv_at hl 0 rfl) ?_
  refine lv_iload_n hx hb dX0_sample_1 rfl (lv_at hl 1 rfl) ?_
  refine ro_calli (va_runV (As := [.int q]) (rest := []) ⟨hx, hb, hml, hown, hts⟩ (kX0_isQuestion l D cJ h a1 a2 a3 a4 a5 u d lw uw an fn qn sd q) (cwV 1 hts gX0_sample_X0_isQuestion rfl rfl rfl ok_X0_isQuestion ⟨Nat.le_of_ble_eq_true rfl, Nat.le_of_ble_eq_true rfl⟩) ⟨oo_blind, va_recv hK hP (ci := 0) (q0 := 0) rfl rfl, oo_ps hP hK [0, 1, 2, 3, 4, 5] rfl [0] rfl⟩ rfl rfl hl.1 rfl (lv_room (Nat.le_of_ble_eq_true rfl)) dX0_sample_2 ⟨Nat.le_of_ble_eq_true rfl, Nat.le_of_ble_eq_true rfl⟩) hP hS (fun H locs hP hS => ?_)
  refine lv_if_eq (tgt := 21) hx hb dX0_sample_5 (by decide) (fun c_5 => ?_) (fun c_5 => ?_)
  · refine lv_iconst (v := (-1 : Int32)) hx hb dX0_sample_21 (by decide) ?_
    have hP := Eq.mp (congrArg (fun z9 => va_P D vwCl (xW cJ h a1 a2 a3 a4 a5 u d lw uw an (nI fn) (nI qn) z9) H) (show sd = kvX0_sample_sd fn qn sd q sd0 ws from (by unfold kvX0_sample_sd; rw [if_pos c_5]))) hP
    have hP : va_P D vwCl (xW cJ h a1 a2 a3 a4 a5 u d lw uw an (nI fn) (nI qn) (kvX0_sample_sd fn qn sd q sd0 ws)) H := hP
    have hD : va_D _ (xW cJ h a1 a2 a3 a4 a5 u d lw uw an (nI fn) (nI qn) (kvX0_sample_sd fn qn sd q sd0 ws)) := oo_Dre hD (oo_fc (oo_fc (oo_fc (oo_fc (oo_fc (oo_fc rfl))))))
    exact mu_reti hx hb hr hlocks hP hD hS (by unfold kvX0_sample; rw [if_pos c_5]) dX0_sample_22
  · refine lv_iload hx hb dX0_sample_8 (lv_at hl 3 rfl) ?_
    refine lv_if_lt (tgt := 21) hx hb dX0_sample_10 (by decide) (fun c_10 => ?_) (fun c_10 => ?_)
    · refine lv_iconst (v := (-1 : Int32)) hx hb dX0_sample_21 (by decide) ?_
      have hP := Eq.mp (congrArg (fun z9 => va_P D vwCl (xW cJ h a1 a2 a3 a4 a5 u d lw uw an (nI fn) (nI qn) z9) H) (show sd = kvX0_sample_sd fn qn sd q sd0 ws from (by unfold kvX0_sample_sd; rw [if_neg c_5, if_pos c_10]))) hP
      have hP : va_P D vwCl (xW cJ h a1 a2 a3 a4 a5 u d lw uw an (nI fn) (nI qn) (kvX0_sample_sd fn qn sd q sd0 ws)) H := hP
      have hD : va_D _ (xW cJ h a1 a2 a3 a4 a5 u d lw uw an (nI fn) (nI qn) (kvX0_sample_sd fn qn sd q sd0 ws)) := oo_Dre hD (oo_fc (oo_fc (oo_fc (oo_fc (oo_fc (oo_fc rfl))))))
      exact mu_reti hx hb hr hlocks hP hD hS (by unfold kvX0_sample; rw [if_neg c_5, if_pos c_10]) dX0_sample_22
    · refine lv_iload hx hb dX0_sample_13 (lv_at hl 3 rfl) ?_
      refine lv_sipush (v := nI 200) hx hb dX0_sample_15 (by decide) ?_
      refine lv_icmp_le (tgt := 23) hx hb dX0_sample_18 (by decide) (fun c_18 => ?_) (fun c_18 => ?_)
      · refine lv_aload_n hx hb dX0_sample_23 rfl (lv_at hl 0 rfl) ?_
        refine lv_lload_n hx hb dX0_sample_24 rfl (lv_at hl 2 rfl) ?_
        refine lv_ldc2 hx hb hown (hts (.constantLong RX0 141 (281474976710655)) (by decide +kernel)) dX0_sample_25 ?_
        refine lv_land hx hb dX0_sample_28 ?_
        refine va_put (D := D) (ci := 0) (v := .long (sd0 &&& (281474976710655 : Int64))) (ty := .long) (C := RX0) (T := TX0) (N := 8) hx hb hts hin tyX0 tyX0_ok nmX0 hown hK hP hD hS 0 rfl rfl 7 (by decide) (hts (.fieldLink RX0 32 "OddsSampling" "lastSeed" "J") (by decide +kernel)) (fun _ h9 => h9) rfl (by decide +kernel) rfl rfl (Nat.le_of_ble_eq_true rfl) dX0_sample_29 (fun H locs hP hD hS => ?_)
        have hP : va_P D vwCl (xW cJ h a1 a2 a3 a4 a5 u d lw uw an (nI fn) (nI qn) (sd0 &&& (281474976710655 : Int64))) H := hP
        have hD : va_D _ (xW cJ h a1 a2 a3 a4 a5 u d lw uw an (nI fn) (nI qn) (sd0 &&& (281474976710655 : Int64))) := hD
        have hwn : ws.toNatClampNeg ≤ 200 := oo_cntL (by omega) c_10 c_18
        refine lv_iconst (v := (0 : Int32)) hx hb dX0_sample_32 (by decide) ?_
        refine lv_istore (lv' := [(5, .int (0 : Int32)), (0, .ref h), (1, .int q), (2, .long sd0), (4, .int ws)]) hx hb dX0_sample_33 hl (by decide) rfl (fun ls hl => ?_)
        refine lv_iconst (v := nI 0) hx hb dX0_sample_35 (by decide) ?_
        refine lv_istore (lv' := [(6, .int (nI 0)), (5, .int (0 : Int32)), (0, .ref h), (1, .int q), (2, .long sd0), (4, .int ws)]) hx hb dX0_sample_36 hl (by decide) rfl (fun ls hl => ?_)
        have hl : lv_has ls 7 [(0, .ref h), (1, .int q), (4, .int ws), (5, .int (0 : Int32)), (6, .int (nI 0))] := lv_sub hl [2, 3, 5, 1, 0] rfl
        have hl := Eq.mp (congrArg (fun z9 => lv_has ls 7 [(0, .ref h), (1, .int q), (4, .int ws), (5, .int z9), (6, .int (nI 0))]) (show (0 : Int32) = kl_samC u d an fn qn q (sd0 &&& (281474976710655 : Int64)) 0 from (by first | (simp only [kl_samS, kl_samC]; done) | (simp only [kl_samS, kl_samC]; rw [if_neg c_5, if_neg c_10, if_pos c_18])))) hl
        have hP := Eq.mp (congrArg (fun z9 => va_P D vwCl (xW cJ h a1 a2 a3 a4 a5 u d lw uw an (nI fn) (nI qn) z9) H) (show sd0 &&& (281474976710655 : Int64) = kl_samS (sd0 &&& (281474976710655 : Int64)) fn 0 from (by first | (simp only [kl_samS, kl_samC]; done) | (simp only [kl_samS, kl_samC]; rw [if_neg c_5, if_neg c_10, if_pos c_18])))) hP
        have hP : va_P D vwCl (xW cJ h a1 a2 a3 a4 a5 u d lw uw an (nI fn) (nI qn) (kl_samS (sd0 &&& (281474976710655 : Int64)) fn 0)) H := hP
        have hD : va_D _ (xW cJ h a1 a2 a3 a4 a5 u d lw uw an (nI fn) (nI qn) (kl_samS (sd0 &&& (281474976710655 : Int64)) fn 0)) := oo_Dre hD (oo_fc (oo_fc (oo_fc (oo_fc (oo_fc (oo_fc rfl))))))
        refine oo_loop (N := ws.toNatClampNeg) (fun n H locs ls => va_P D vwCl (xW cJ h a1 a2 a3 a4 a5 u d lw uw an (nI fn) (nI qn) (kl_samS (sd0 &&& (281474976710655 : Int64)) fn n)) H ∧ va_D (va_A (xW cJ h a1 a2 a3 a4 a5 u d lw uw an (nI fn) (nI qn) sd) s.heap.size) (xW cJ h a1 a2 a3 a4 a5 u d lw uw an (nI fn) (nI qn) (kl_samS (sd0 &&& (281474976710655 : Int64)) fn n)) ∧ va_S (va_A (xW cJ h a1 a2 a3 a4 a5 u d lw uw an (nI fn) (nI qn) sd) s.heap.size) s.heap H locs ∧ lv_has ls 7 [(0, .ref h), (1, .int q), (4, .int ws), (5, .int (kl_samC u d an fn qn q (sd0 &&& (281474976710655 : Int64)) n)), (6, .int (nI n))]) ?_ ?_ 0 (Nat.zero_le _) ⟨hP, hD, hS, hl⟩
        · intro H locs ls hI
          obtain ⟨hP, hD, hS, hl⟩ := hI
          refine lv_iload hx hb dX0_sample_38 (lv_at hl 4 rfl) ?_
          refine lv_iload hx hb dX0_sample_40 (lv_at hl 2 rfl) ?_
          refine oo_topI (y := nI ws.toNatClampNeg) (oo_cnt c_10) ?_
          refine lv_icmp_ge (tgt := 66) hx hb dX0_sample_42 (by decide) (fun c_42 => ?_) (fun c_42 => ?_)
          · refine lv_iload hx hb dX0_sample_66 (lv_at hl 3 rfl) ?_
            have hP := Eq.mp (congrArg (fun z9 => va_P D vwCl (xW cJ h a1 a2 a3 a4 a5 u d lw uw an (nI fn) (nI qn) z9) H) (show kl_samS (sd0 &&& (281474976710655 : Int64)) fn ws.toNatClampNeg = kvX0_sample_sd fn qn sd q sd0 ws from (by unfold kvX0_sample_sd; rw [if_neg c_5, if_neg c_10, if_pos c_18]))) hP
            have hP : va_P D vwCl (xW cJ h a1 a2 a3 a4 a5 u d lw uw an (nI fn) (nI qn) (kvX0_sample_sd fn qn sd q sd0 ws)) H := hP
            have hD : va_D _ (xW cJ h a1 a2 a3 a4 a5 u d lw uw an (nI fn) (nI qn) (kvX0_sample_sd fn qn sd q sd0 ws)) := oo_Dre hD (oo_fc (oo_fc (oo_fc (oo_fc (oo_fc (oo_fc rfl))))))
            exact mu_reti hx hb hr hlocks hP hD hS (by unfold kvX0_sample; rw [if_neg c_5, if_neg c_10, if_pos c_18]) dX0_sample_68
          · exact absurd (nI_le (Nat.le_refl _) (by omega)) c_42
        · intro n hltn ihn H locs ls hI
          obtain ⟨hP, hD, hS, hl⟩ := hI
          refine lv_iload hx hb dX0_sample_38 (lv_at hl 4 rfl) ?_
          refine lv_iload hx hb dX0_sample_40 (lv_at hl 2 rfl) ?_
          refine oo_topI (y := nI ws.toNatClampNeg) (oo_cnt c_10) ?_
          refine lv_icmp_ge (tgt := 66) hx hb dX0_sample_42 (by decide) (fun c_42 => ?_) (fun c_42 => ?_)
          · exact absurd c_42 (nI_ge hltn (by omega))
          · refine lv_aload_n hx hb dX0_sample_45 rfl (lv_at hl 0 rfl) ?_
            refine lv_iload_n hx hb dX0_sample_46 rfl (lv_at hl 1 rfl) ?_
            refine lv_aload_n hx hb dX0_sample_47 rfl (lv_at hl 0 rfl) ?_
            refine mu_calli (va_runV (As := []) (rest := [.int q, .ref h]) ⟨hx, hb, hml, hown, hts⟩ (kX0_drawWorld l D cJ h a1 a2 a3 a4 a5 u d lw uw an fn qn (kl_samS (sd0 &&& (281474976710655 : Int64)) fn n) hfn _) (cwV 0 hts gX0_sample_X0_drawWorld rfl rfl rfl ok_X0_drawWorld ⟨Nat.le_of_ble_eq_true rfl, Nat.le_of_ble_eq_true rfl⟩) ⟨oo_blindM, va_recv hK hP (ci := 0) (q0 := 0) rfl rfl, oo_psM hP hD hK [0, 1, 2, 3, 4, 5] rfl rfl [0] rfl⟩ rfl rfl hl.1 rfl (lv_room (Nat.le_of_ble_eq_true rfl)) dX0_sample_48 ⟨Nat.le_of_ble_eq_true rfl, Nat.le_of_ble_eq_true rfl⟩) hP hD hS hA [0, 1, 2, 3, 4, 5] rfl (oo_fc (oo_fc (oo_fc (oo_fc (oo_fc (oo_fc rfl)))))) (fun H locs hP hD hS => ?_)
            have hP : va_P D vwCl (xW cJ h a1 a2 a3 a4 a5 u d lw uw an (nI fn) (nI qn) (kl_sds (kl_samS (sd0 &&& (281474976710655 : Int64)) fn n) fn)) H := hP
            have hD : va_D _ (xW cJ h a1 a2 a3 a4 a5 u d lw uw an (nI fn) (nI qn) (kl_sds (kl_samS (sd0 &&& (281474976710655 : Int64)) fn n) fn)) := hD
            refine ro_calli (va_runV (As := [.int q, .int (kvX0_drawWorld u d fn (kl_samS (sd0 &&& (281474976710655 : Int64)) fn n))]) (rest := []) ⟨hx, hb, hml, hown, hts⟩ (kX0_isTrue l D cJ h a1 a2 a3 a4 a5 u d lw uw an fn qn (kl_sds (kl_samS (sd0 &&& (281474976710655 : Int64)) fn n) fn) q (kvX0_drawWorld u d fn (kl_samS (sd0 &&& (281474976710655 : Int64)) fn n))) (cwV 2 hts gX0_sample_X0_isTrue rfl rfl rfl ok_X0_isTrue ⟨Nat.le_of_ble_eq_true rfl, Nat.le_of_ble_eq_true rfl⟩) ⟨oo_blind, va_recv hK hP (ci := 0) (q0 := 0) rfl rfl, oo_ps hP hK [0, 1, 2, 3, 4, 5] rfl [0] rfl⟩ rfl rfl hl.1 rfl (lv_room (Nat.le_of_ble_eq_true rfl)) dX0_sample_51 ⟨Nat.le_of_ble_eq_true rfl, Nat.le_of_ble_eq_true rfl⟩) hP hS (fun H locs hP hS => ?_)
            refine lv_if_eq (tgt := 60) hx hb dX0_sample_54 (by decide) (fun c_54 => ?_) (fun c_54 => ?_)
            · refine lv_iinc (v := nI (n + 1)) (lv' := [(6, .int (nI (n + 1))), (0, .ref h), (1, .int q), (4, .int ws), (5, .int (kl_samC u d an fn qn q (sd0 &&& (281474976710655 : Int64)) n))]) hx hb dX0_sample_60 hl (k := 4) rfl (oo_inc n 1) (by decide) rfl (fun ls hl => ?_)
              refine lv_goto (tgt := 38) hx hb dX0_sample_63 (by decide) ?_
              have hl : lv_has ls 7 [(0, .ref h), (1, .int q), (4, .int ws), (5, .int (kl_samC u d an fn qn q (sd0 &&& (281474976710655 : Int64)) n)), (6, .int (nI (n + 1)))] := lv_sub hl [1, 2, 3, 4, 0] rfl
              have hl := Eq.mp (congrArg (fun z9 => lv_has ls 7 [(0, .ref h), (1, .int q), (4, .int ws), (5, .int z9), (6, .int (nI (n + 1)))]) (show kl_samC u d an fn qn q (sd0 &&& (281474976710655 : Int64)) n = kl_samC u d an fn qn q (sd0 &&& (281474976710655 : Int64)) (n + 1) from (by first | (simp only [kl_samS, kl_samC]; done) | (simp only [kl_samS, kl_samC]; rw [if_pos c_54])))) hl
              have hP := Eq.mp (congrArg (fun z9 => va_P D vwCl (xW cJ h a1 a2 a3 a4 a5 u d lw uw an (nI fn) (nI qn) z9) H) (show kl_sds (kl_samS (sd0 &&& (281474976710655 : Int64)) fn n) fn = kl_samS (sd0 &&& (281474976710655 : Int64)) fn (n + 1) from (by first | (simp only [kl_samS, kl_samC]; done) | (simp only [kl_samS, kl_samC]; rw [if_pos c_54])))) hP
              have hP : va_P D vwCl (xW cJ h a1 a2 a3 a4 a5 u d lw uw an (nI fn) (nI qn) (kl_samS (sd0 &&& (281474976710655 : Int64)) fn (n + 1))) H := hP
              have hD : va_D _ (xW cJ h a1 a2 a3 a4 a5 u d lw uw an (nI fn) (nI qn) (kl_samS (sd0 &&& (281474976710655 : Int64)) fn (n + 1))) := oo_Dre hD (oo_fc (oo_fc (oo_fc (oo_fc (oo_fc (oo_fc rfl))))))
              exact ihn _ _ _ ⟨hP, hD, hS, hl⟩
            · refine lv_iinc (v := (kl_samC u d an fn qn q (sd0 &&& (281474976710655 : Int64)) n) + 1) (lv' := [(5, .int ((kl_samC u d an fn qn q (sd0 &&& (281474976710655 : Int64)) n) + 1)), (0, .ref h), (1, .int q), (4, .int ws), (6, .int (nI n))]) hx hb dX0_sample_57 hl (k := 3) rfl rfl (by decide) rfl (fun ls hl => ?_)
              refine lv_iinc (v := nI (n + 1)) (lv' := [(6, .int (nI (n + 1))), (5, .int ((kl_samC u d an fn qn q (sd0 &&& (281474976710655 : Int64)) n) + 1)), (0, .ref h), (1, .int q), (4, .int ws)]) hx hb dX0_sample_60 hl (k := 4) rfl (oo_inc n 1) (by decide) rfl (fun ls hl => ?_)
              refine lv_goto (tgt := 38) hx hb dX0_sample_63 (by decide) ?_
              have hl : lv_has ls 7 [(0, .ref h), (1, .int q), (4, .int ws), (5, .int ((kl_samC u d an fn qn q (sd0 &&& (281474976710655 : Int64)) n) + 1)), (6, .int (nI (n + 1)))] := lv_sub hl [2, 3, 4, 1, 0] rfl
              have hl := Eq.mp (congrArg (fun z9 => lv_has ls 7 [(0, .ref h), (1, .int q), (4, .int ws), (5, .int z9), (6, .int (nI (n + 1)))]) (show (kl_samC u d an fn qn q (sd0 &&& (281474976710655 : Int64)) n) + 1 = kl_samC u d an fn qn q (sd0 &&& (281474976710655 : Int64)) (n + 1) from (by first | (simp only [kl_samS, kl_samC]; done) | (simp only [kl_samS, kl_samC]; rw [if_neg c_54])))) hl
              have hP := Eq.mp (congrArg (fun z9 => va_P D vwCl (xW cJ h a1 a2 a3 a4 a5 u d lw uw an (nI fn) (nI qn) z9) H) (show kl_sds (kl_samS (sd0 &&& (281474976710655 : Int64)) fn n) fn = kl_samS (sd0 &&& (281474976710655 : Int64)) fn (n + 1) from (by first | (simp only [kl_samS, kl_samC]; done) | (simp only [kl_samS, kl_samC]; rw [if_neg c_54])))) hP
              have hP : va_P D vwCl (xW cJ h a1 a2 a3 a4 a5 u d lw uw an (nI fn) (nI qn) (kl_samS (sd0 &&& (281474976710655 : Int64)) fn (n + 1))) H := hP
              have hD : va_D _ (xW cJ h a1 a2 a3 a4 a5 u d lw uw an (nI fn) (nI qn) (kl_samS (sd0 &&& (281474976710655 : Int64)) fn (n + 1))) := oo_Dre hD (oo_fc (oo_fc (oo_fc (oo_fc (oo_fc (oo_fc rfl))))))
              exact ihn _ _ _ ⟨hP, hD, hS, hl⟩
      · refine lv_iconst (v := (-1 : Int32)) hx hb dX0_sample_21 (by decide) ?_
        have hP := Eq.mp (congrArg (fun z9 => va_P D vwCl (xW cJ h a1 a2 a3 a4 a5 u d lw uw an (nI fn) (nI qn) z9) H) (show sd = kvX0_sample_sd fn qn sd q sd0 ws from (by unfold kvX0_sample_sd; rw [if_neg c_5, if_neg c_10, if_neg c_18]))) hP
        have hP : va_P D vwCl (xW cJ h a1 a2 a3 a4 a5 u d lw uw an (nI fn) (nI qn) (kvX0_sample_sd fn qn sd q sd0 ws)) H := hP
        have hD : va_D _ (xW cJ h a1 a2 a3 a4 a5 u d lw uw an (nI fn) (nI qn) (kvX0_sample_sd fn qn sd q sd0 ws)) := oo_Dre hD (oo_fc (oo_fc (oo_fc (oo_fc (oo_fc (oo_fc rfl))))))
        exact mu_reti hx hb hr hlocks hP hD hS (by unfold kvX0_sample; rw [if_neg c_5, if_neg c_10, if_neg c_18]) dX0_sample_22
theorem ok_X0_seed : yX0_seed.cls = RX0 ∧ yX0_seed.cls ≠ "java/lang/invoke/MethodHandle" ∧ yX0_seed.cls ≠ "java/lang/invoke/VarHandle" ∧ (parseMethodDescriptor yX0_seed.desc).map (fun d => d.parameters.length) = some 0 := by decide +kernel
def kvX0_seed (sd : Int64) : Int64 := sd
set_option maxHeartbeats 4000000 in
set_option maxRecDepth 100000 in
theorem kX0_seed (l : Launch) (D : va_G) (cJ : ClassId) (h a1 a2 a3 a4 a5 : Nat) (u d lw uw an : Nat → Int64) (fn qn : Nat) (sd : Int64)  : RoL l yX0_seed wsX0_seed ({ frames := 0, cells := 0, slots := 0, locals := 0 } : Room) [.ref h] D (xW cJ h a1 a2 a3 a4 a5 u d lw uw an (nI fn) (nI qn) sd) [(cJ, .long)] (kvX0_seed sd) := by
  refine oo_head (C := RX0) (cc := cX0_seed) (maxL := 1) (ret := (some .long)) (by decide) rfl rfl (Nat.le_of_ble_eq_true rfl) ?_
  intro p e s m below meth c hx hb hr hlocks hml hown hnm hts hpre ls hl
  have hl : lv_has ls 1 [(0, .ref h)] := hl
  obtain ⟨hP, hK⟩ := hpre
  have hS : va_S oo_N s.heap s.heap [] := va_S.rf
  have hin : ∀ w ∈ wsX00, w ∈ wsX0_seed := fun w h => List.mem_cons_of_mem _ (List.mem_append_right _ h)
  refine lv_aload_n hx hb dX0_seed_0 rfl (lv_at hl 0 rfl) ?_
  refine va_get (D := D) (ci := 0) (v := .long sd) (C := RX0) (T := TX0) (N := 8) hx hb hts hin hown hK hP 0 rfl rfl 7 (by decide) (hts (.fieldLink RX0 32 "OddsSampling" "lastSeed" "J") (by decide +kernel)) (fun _ h9 => h9) rfl dX0_seed_1 ?_
  exact ro_retl hx hb hr hlocks hS (by unfold kvX0_seed; rfl) dX0_seed_4
theorem ok_X0_questions : yX0_questions.cls = RX0 ∧ yX0_questions.cls ≠ "java/lang/invoke/MethodHandle" ∧ yX0_questions.cls ≠ "java/lang/invoke/VarHandle" ∧ (parseMethodDescriptor yX0_questions.desc).map (fun d => d.parameters.length) = some 0 := by decide +kernel
def kvX0_questions (qn : Nat) : Int32 := nI qn
set_option maxHeartbeats 4000000 in
set_option maxRecDepth 100000 in
theorem kX0_questions (l : Launch) (D : va_G) (cJ : ClassId) (h a1 a2 a3 a4 a5 : Nat) (u d lw uw an : Nat → Int64) (fn qn : Nat) (sd : Int64)  : RoI l yX0_questions wsX0_questions ({ frames := 0, cells := 0, slots := 0, locals := 0 } : Room) [.ref h] D (xW cJ h a1 a2 a3 a4 a5 u d lw uw an (nI fn) (nI qn) sd) [(cJ, .long)] (kvX0_questions qn) := by
  refine oo_head (C := RX0) (cc := cX0_questions) (maxL := 1) (ret := (some .int)) (by decide) rfl rfl (Nat.le_of_ble_eq_true rfl) ?_
  intro p e s m below meth c hx hb hr hlocks hml hown hnm hts hpre ls hl
  have hl : lv_has ls 1 [(0, .ref h)] := hl
  obtain ⟨hP, hK⟩ := hpre
  have hS : va_S oo_N s.heap s.heap [] := va_S.rf
  have hin : ∀ w ∈ wsX00, w ∈ wsX0_questions := fun w h => List.mem_cons_of_mem _ (List.mem_append_right _ h)
  refine lv_aload_n hx hb dX0_questions_0 rfl (lv_at hl 0 rfl) ?_
  refine va_get (D := D) (ci := 0) (v := .int (nI qn)) (C := RX0) (T := TX0) (N := 8) hx hb hts hin hown hK hP 0 rfl rfl 6 (by decide) (hts (.fieldLink RX0 29 "OddsSampling" "questionCount" "I") (by decide +kernel)) (fun _ h9 => h9) rfl dX0_questions_1 ?_
  exact ro_reti hx hb hr hlocks hS (by unfold kvX0_questions; rfl) dX0_questions_4
theorem kX0_atT (l : Launch) (D : va_G) (t : Nat) (f : Nat → Int64) (i : Int32) : Met l yX0_at wsX0_at ({ frames := 0, cells := 0, slots := 0, locals := 0 } : Room) (va_Pc [.ref t, .int i] (fun U => va_T .long t 6 (fun j => .long (f j)) oo_N U U.heap)) (oo_RQl (kvX0_at 6 f i)) 0 0 oo_N := by
  refine oo_head (C := RX0) (cc := cX0_at) (maxL := 2) (ret := (some .long)) (by decide) rfl rfl (Nat.le_of_ble_eq_true rfl) ?_
  intro p e s m below meth c hx hb hr hlocks hml hown hnm hts hT ls hl
  have hl : lv_has ls 2 [(0, .ref t), (1, .int i)] := hl
  have hS : va_S oo_N s.heap s.heap [] := va_S.rf
  refine lv_aload_n hx hb dX0_at_0 rfl (lv_at hl 0 rfl) ?_
  refine lv_ifnull hx hb dX0_at_1 ?_
  refine lv_iload_n hx hb dX0_at_4 rfl (lv_at hl 1 rfl) ?_
  refine lv_if_lt (tgt := 20) hx hb dX0_at_5 (by decide) (fun c_5 => ?_) (fun c_5 => ?_)
  · refine lv_lconst (v := 0) hx hb dX0_at_20 (by decide) ?_
    exact ro_retl hx hb hr hlocks hS (by unfold kvX0_at; rw [if_pos c_5]) dX0_at_21
  · refine lv_iload_n hx hb dX0_at_8 rfl (lv_at hl 1 rfl) ?_
    refine lv_aload_n hx hb dX0_at_9 rfl (lv_at hl 0 rfl) ?_
    refine va_tlen (v := nI 6) hx hb hT hS rfl dX0_at_10 ?_
    refine lv_icmp_ge (tgt := 20) hx hb dX0_at_11 (by decide) (fun c_11 => ?_) (fun c_11 => ?_)
    · refine lv_lconst (v := 0) hx hb dX0_at_20 (by decide) ?_
      exact ro_retl hx hb hr hlocks hS (by unfold kvX0_at; rw [if_neg c_5, if_pos c_11]) dX0_at_21
    · refine lv_aload_n hx hb dX0_at_14 rfl (lv_at hl 0 rfl) ?_
      refine lv_iload_n hx hb dX0_at_15 rfl (lv_at hl 1 rfl) ?_
      refine va_tl (v := .long (f i.toNatClampNeg)) hx hb hT hS (oo_in (by omega) c_5 c_11) rfl dX0_at_16 ?_
      refine lv_goto (tgt := 21) hx hb dX0_at_17 (by decide) ?_
      exact ro_retl hx hb hr hlocks hS (by unfold kvX0_at; rw [if_neg c_5, if_neg c_11]) dX0_at_21
end
