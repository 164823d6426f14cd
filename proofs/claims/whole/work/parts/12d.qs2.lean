/-! questions, more: some, join, holds, same -/
theorem zj_cnt : ∀ a b : Fin 64, kvJ6_bitCount_0f7a4 (nI (64 * a.val + b.val)) = nI (kl_size (64 * a.val + b.val) 12) := by decide +kernel
theorem zj_count {m : Nat} (h : m < 4096) : kvJ6_bitCount_0f7a4 (nI m) = nI (kl_size m 12) := by
  have h2 := zj_cnt ⟨m / 64, by omega⟩ ⟨m % 64, by omega⟩
  try simp only [] at h2
  rw [show 64 * (m / 64) + m % 64 = m from by omega] at h2
  exact h2
theorem zl_some {fn qn : Nat} {u d lw uw an : Nat → Int64} {mu md tr : Nat → Int32} (hR : rl fn qn u d lw uw an mu md tr) (fs lo hi : Int32) : ∃ qn9 : Nat, kvX0_some_qc fn qn fs = nI qn9 ∧ kvX1_some_qc fn qn fs = nI qn9 ∧ rl fn qn9 u d lw uw (kvX0_some_an an fn qn fs lo hi) mu md (kvX1_some_tr tr fn qn fs lo hi) := by
  unfold kvX0_some_qc kvX1_some_qc kvX0_some_an kvX1_some_tr
  obtain ⟨f1, f2⟩ := zt_areF hR.1 fs
  have hp := zt_pw hR.1
  rw [← f1]
  by_cases g1 : kvX0_areFacts fn fs = 0
  · simp only [if_pos g1]; exact ⟨qn, rfl, rfl, hR⟩
  simp only [if_neg g1]
  rcases zq_full hR.2.1 with ⟨h1, h2, h3⟩ | ⟨h1, h2⟩
  · simp only [if_pos h1, if_neg h3]
    refine ⟨qn + 1, rfl, rfl, hR.1, by omega, ?_⟩
    obtain ⟨a, ha, rfl⟩ := f2 g1
    have hN := zq_new (an := an) (tr := tr) (B := fun n => kvX0_someBlock (nI n) (nI a) lo hi) (V := fun n => if nI (kl_size (n &&& a) 12) < lo then 0 else if hi < nI (kl_size (n &&& a) 12) then 0 else 1) hR.1 hR.2.2.2.1 hR.2.2.1
      (zq_A (an := an) (G := kl_someA an qn (nI a) lo hi) (B := fun n => kvX0_someBlock (nI n) (nI a) lo hi) h2 rfl (fun n _ _ => rfl) 64 (Nat.le_refl _))
      (zq_T (tr := tr) (G := kl_someT tr qn (nI a) lo hi) (V := fun n => if nI (kl_size (n &&& a) 12) < lo then 0 else if hi < nI (kl_size (n &&& a) 12) then 0 else 1) rfl (fun n _ _ => by
        simp only [kl_someT]
        rw [nI_clamp (by omega)]
        repeat' split
        all_goals rfl) 4096 (Nat.le_refl _)) ?_ ?_ ?_
    · exact ⟨hN.1, hN.2, hR.2.2.2.2⟩
    · intro b k hb hk
      have hx : ∀ n, n ≤ 64 → ((kl_someB (nI b) (nI a) lo hi n).toBitVec.getLsbD k = true ↔ k < n ∧ ¬ nI (kl_size ((64 * b + k) &&& a) 12) < lo ∧ ¬ hi < nI (kl_size ((64 * b + k) &&& a) 12)) := by
        intro n
        induction n with
        | zero => intro _; simp only [kl_someB]; exact ⟨fun z => by simp at z, fun z => absurd z.1 (by omega)⟩
        | succ n ih =>
          intro hn
          have ih := ih (by omega)
          simp only [kl_someB]
          have e0 : nI b * nI 64 + nI n = nI (64 * b + n) := by rw [Nat.mul_comm, ← nI_add, nI, nI, nI, ← Int32.ofNat_mul]; rfl
          rw [e0, fa_and, zj_count (Nat.lt_of_le_of_lt Nat.and_le_right (by omega))]
          by_cases e1 : nI (kl_size ((64 * b + n) &&& a) 12) < lo
          · rw [if_pos e1, ih]
            exact ⟨fun z => ⟨by omega, z.2⟩, fun z => ⟨by
                by_cases e3 : k = n
                · subst e3; exact absurd e1 z.2.1
                · omega, z.2⟩⟩
          · rw [if_neg e1]
            by_cases e2 : hi < nI (kl_size ((64 * b + n) &&& a) 12)
            · rw [if_pos e2, ih]
              exact ⟨fun z => ⟨by omega, z.2⟩, fun z => ⟨by
                by_cases e3 : k = n
                · subst e3; exact absurd e2 z.2.2
                · omega, z.2⟩⟩
            · rw [if_neg e2, zt_lor (by omega) hk, Bool.or_eq_true, ih, decide_eq_true_iff]
              constructor
              · rintro (⟨z1, z2⟩ | z)
                · exact ⟨by omega, z2⟩
                · subst z; exact ⟨by omega, e1, e2⟩
              · rintro ⟨z1, z2⟩
                by_cases e3 : k = n
                · exact Or.inr e3
                · exact Or.inl ⟨by omega, z2⟩
      refine (hx 64 (Nat.le_refl _)).trans ?_
      constructor
      · rintro ⟨_, z1, z2⟩; show (if _ then _ else _) = _; rw [if_neg z1, if_neg z2]
      · intro z
        try simp only [] at z
        refine ⟨hk, ?_⟩
        by_cases e1 : nI (kl_size ((64 * b + k) &&& a) 12) < lo
        · rw [if_pos e1] at z; exact absurd z (by decide)
        · rw [if_neg e1] at z
          by_cases e2 : hi < nI (kl_size ((64 * b + k) &&& a) 12)
          · rw [if_pos e2] at z; exact absurd z (by decide)
          · exact ⟨e1, e2⟩
    · intro w hw
      simp only [zt_and_mod ha]
    · intro w
      try simp only []
      repeat' split
      all_goals first | exact Or.inl rfl | exact Or.inr rfl
  · simp only [if_neg h1, if_pos h2]; exact ⟨qn, rfl, rfl, hR⟩
theorem zj_bv (op : Int32) (x y : Int64) {k : Nat} (hk : k < 64) : (kvX0_joined op x y).toBitVec.getLsbD k = if op = 0 then (x.toBitVec.getLsbD k && y.toBitVec.getLsbD k) else if op = 1 then (x.toBitVec.getLsbD k || y.toBitVec.getLsbD k) else if op = 2 then (x.toBitVec.getLsbD k ^^ y.toBitVec.getLsbD k) else !(x.toBitVec.getLsbD k) := by
  unfold kvX0_joined
  repeat' split
  · rw [Int64.toBitVec_and, BitVec.getLsbD_and]
  · rw [Int64.toBitVec_or, BitVec.getLsbD_or]
  · rw [Int64.toBitVec_xor, BitVec.getLsbD_xor]
  · rw [Int64.toBitVec_xor, BitVec.getLsbD_xor, show (-1 : Int64).toBitVec = BitVec.allOnes 64 from rfl, BitVec.getLsbD_allOnes]
    simp [hk]
theorem zj_b {x : Bool} {t : Int32} (h : t = 0 ∨ t = 1) (h2 : x = true ↔ t = 1) : (x = true ∧ t = 1) ∨ (x = false ∧ t = 0) := by
  rcases h with h | h
  · exact Or.inr ⟨by rw [h] at h2; exact Bool.eq_false_iff.mpr (fun z => absurd (h2.mp z) (by decide)), h⟩
  · exact Or.inl ⟨h2.mpr h, h⟩
theorem zl_join {fn qn : Nat} {u d lw uw an : Nat → Int64} {mu md tr : Nat → Int32} (hR : rl fn qn u d lw uw an mu md tr) (op q r : Int32) : ∃ qn9 : Nat, kvX0_join_qc qn op q r = nI qn9 ∧ kvX1_join_qc qn op q r = nI qn9 ∧ rl fn qn9 u d lw uw (kvX0_join_an an qn op q r) mu md (kvX1_join_tr tr qn op q r) := by
  have hq := hR.2.1
  have hQ : ∀ q, kvX1_isQuestion qn q = kvX0_isQuestion qn q := fun _ => rfl
  have hp := zt_pw hR.1
  have h01 := hR.2.2.1
  have hrq := hR.2.2.2.1
  have key : qn < 40 → ¬ op < 0 → ¬ 3 < op → ¬ kvX0_isQuestion qn q = 0 → (¬ 3 ≤ op → ¬ kvX0_isQuestion qn r = 0) →
      rl fn (qn + 1) u d lw uw (kl_joinA an qn op q r 64) mu md (kl_joinT tr qn op q.toNatClampNeg r.toNatClampNeg 4096) := by
    intro h2 k1 k2 k3 k4
    obtain ⟨i, hi, rfl⟩ := zt_isQ hq k3
    have hV1 : ∀ a b : Nat, kl_jv op (tr a) (if 3 ≤ op then 0 else if tr b = 0 then 0 else 1) = 0 ∨ kl_jv op (tr a) (if 3 ≤ op then 0 else if tr b = 0 then 0 else 1) = 1 := by
      intro a b; unfold kl_jv
      repeat' split
      all_goals first | exact Or.inl rfl | exact Or.inr rfl
    refine ⟨hR.1, by omega, ?_⟩
    rw [nI_clamp (by omega)]
    have hN := zq_new (an := an) (tr := tr) (B := fun n => kvX0_joined op (kvX0_blockOf an qn (nI i) (nI n)) (kvX0_blockOf an qn r (nI n))) (V := fun n => kl_jv op (tr (4096 * i + n)) (if 3 ≤ op then 0 else if tr (4096 * r.toNatClampNeg + n) = 0 then 0 else 1)) hR.1 hrq h01
      (zq_A (an := an) (G := kl_joinA an qn op (nI i) r) (B := fun n => kvX0_joined op (kvX0_blockOf an qn (nI i) (nI n)) (kvX0_blockOf an qn r (nI n))) h2 rfl (fun n hn hG => by
        simp only [kl_joinA]
        have e1 : ∀ x : Int32, kvX0_blockOf (kl_joinA an qn op (nI i) r n) qn x (nI n) = kvX0_blockOf an qn x (nI n) := by
          intro x
          by_cases e : kvX0_isQuestion qn x = 0
          · unfold kvX0_blockOf; rw [if_pos e, if_pos e]
          · obtain ⟨j, hj, rfl⟩ := zt_isQ hq e
            rw [zt_block hq hj hn, zt_block hq hj hn, hG _ (by omega)]
        rw [e1, e1]) 64 (Nat.le_refl _))
      (zq_T (tr := tr) (G := kl_joinT tr qn op i r.toNatClampNeg) (V := fun n => kl_jv op (tr (4096 * i + n)) (if 3 ≤ op then 0 else if tr (4096 * r.toNatClampNeg + n) = 0 then 0 else 1)) rfl (fun n hn hG => by
        simp only [kl_joinT]
        rw [hG _ (by omega)]
        by_cases e : 3 ≤ op
        · simp only [if_pos e]
        · obtain ⟨j, hj, rfl⟩ := zt_isQ hq (k4 e)
          rw [nI_clamp (show j < 2 ^ 31 by omega)] at hG ⊢
          rw [hG _ (by omega)]) 4096 (Nat.le_refl _)) ?_ ?_ ?_
    · exact ⟨hN.1, hN.2, hR.2.2.2.2⟩
    · intro b k hb hk
      try simp only []
      rw [zj_bv op _ _ hk, zt_block hq hi hb]
      have hx := zj_b (h01 _) (hrq.1 i b k hi hb hk)
      unfold kl_jv
      by_cases e : 3 ≤ op
      · have e1 : ¬ op = 0 ∧ ¬ op = 1 ∧ ¬ op = 2 := by
          refine ⟨?_, ?_, ?_⟩ <;> (intro z; subst z; exact absurd e (by decide))
        rw [if_neg e1.1, if_neg e1.2.1, if_neg e1.2.2, if_neg e1.1, if_neg e1.2.1, if_neg e1.2.2]
        rcases hx with ⟨hx1, hx2⟩ | ⟨hx1, hx2⟩ <;> rw [hx1, hx2] <;> decide
      · obtain ⟨j, hj, rfl⟩ := zt_isQ hq (k4 e)
        rw [zt_block hq hj hb, nI_clamp (by omega), if_neg e]
        have hy := zj_b (h01 _) (hrq.1 j b k hj hb hk)
        rcases hx with ⟨hx1, hx2⟩ | ⟨hx1, hx2⟩ <;> rcases hy with ⟨hy1, hy2⟩ | ⟨hy1, hy2⟩ <;> rw [hx1, hx2, hy1, hy2] <;>
          (by_cases o0 : op = 0
           · rw [if_pos o0, if_pos o0]; decide
           · rw [if_neg o0, if_neg o0]
             by_cases o1 : op = 1
             · rw [if_pos o1, if_pos o1]; decide
             · rw [if_neg o1, if_neg o1]
               by_cases o2 : op = 2
               · rw [if_pos o2, if_pos o2]; decide
               · exfalso
                 rw [fa_eq] at o0 o1 o2
                 rw [fa_lt] at k1
                 rw [fa_le] at e
                 have z0 : (0 : Int32).toInt = 0 := rfl
                 have z1 : (1 : Int32).toInt = 1 := rfl
                 have z2 : (2 : Int32).toInt = 2 := rfl
                 have z3 : (3 : Int32).toInt = 3 := rfl
                 omega)
    · intro w hw
      try simp only []
      rw [hrq.2 i w hi hw]
      by_cases e : 3 ≤ op
      · simp only [if_pos e]
      · obtain ⟨j, hj, rfl⟩ := zt_isQ hq (k4 e)
        rw [nI_clamp (by omega), hrq.2 j w hj hw]
    · intro w; exact hV1 _ _
  unfold kvX0_join_qc kvX1_join_qc kvX0_join_an kvX1_join_tr
  simp only [hQ]
  by_cases g1 : op < 0
  · simp only [if_pos g1]; exact ⟨qn, rfl, rfl, hR⟩
  by_cases g2 : 3 < op
  · simp only [if_neg g1, if_pos g2]; exact ⟨qn, rfl, rfl, hR⟩
  simp only [if_neg g1, if_neg g2]
  have g3 : op = 3 ↔ 3 ≤ op := by
    rw [fa_lt] at g2; rw [fa_le, fa_eq]
    omega
  simp only [g3]
  by_cases g4 : kvX0_isQuestion qn q = 0
  · simp only [if_pos g4]; exact ⟨qn, rfl, rfl, hR⟩
  simp only [if_neg g4]
  rcases zq_full hq with ⟨h1, h2, h3⟩ | ⟨h1, h2⟩
  · simp only [if_pos h1, if_neg h3]
    by_cases g5 : 3 ≤ op
    · simp only [if_pos g5]
      exact ⟨qn + 1, rfl, rfl, key h2 g1 g2 g4 (fun z => absurd g5 z)⟩
    · simp only [if_neg g5]
      by_cases g6 : kvX0_isQuestion qn r = 0
      · simp only [if_pos g6]; exact ⟨qn, rfl, rfl, hR⟩
      · simp only [if_neg g6]
        exact ⟨qn + 1, rfl, rfl, key h2 g1 g2 g4 (fun _ => g6)⟩
  · simp only [if_neg h1, if_pos h2]
    refine ⟨qn, ?_, ?_, ?_⟩
    · repeat' split
      all_goals rfl
    · repeat' split
      all_goals rfl
    · repeat' split
      all_goals exact hR
