/-! questions: blocks of bits against rows of truths -/
theorem zq_A {an : Nat → Int64} {qn : Nat} {G : Nat → Nat → Int64} {B : Nat → Int64} (hq : qn < 40) (h0 : G 0 = an) (hs : ∀ n, n < 64 → (∀ j, j < qn * 64 → G n j = an j) → G (n + 1) = kvX0_put_c0 2560 (G n) (nI qn * nI 64 + nI n) (B n)) :
    ∀ n, n ≤ 64 → ∀ j, G n j = if qn * 64 ≤ j ∧ j < qn * 64 + n then B (j - qn * 64) else an j := by
  intro n
  induction n with
  | zero => intro _ j; rw [h0, if_neg (by omega)]
  | succ n ih =>
    intro hn j
    have ih := ih (by omega)
    rw [hs n (by omega) (fun j hj => by rw [ih j, if_neg (by omega)]), show nI qn * nI 64 + nI n = nI (qn * 64 + n) from by rw [← nI_add, nI, nI, nI, ← Int32.ofNat_mul]; rfl, zt_put (by omega) (by decide)]
    unfold vp_updL
    by_cases e : j = qn * 64 + n
    · rw [if_pos e, if_pos (by omega), e, Nat.add_sub_cancel_left]
    · rw [if_neg e, ih j]
      by_cases e2 : qn * 64 ≤ j ∧ j < qn * 64 + n
      · rw [if_pos e2, if_pos (by omega)]
      · rw [if_neg e2, if_neg (by omega)]
theorem zq_T {tr : Nat → Int32} {qn : Nat} {G : Nat → Nat → Int32} {V : Nat → Int32} (h0 : G 0 = tr) (hs : ∀ n, n < 4096 → (∀ j, j < 4096 * qn → G n j = tr j) → G (n + 1) = upd (G n) (4096 * qn + n) (V n)) :
    ∀ n, n ≤ 4096 → ∀ j, G n j = if 4096 * qn ≤ j ∧ j < 4096 * qn + n then V (j - 4096 * qn) else tr j := by
  intro n
  induction n with
  | zero => intro _ j; rw [h0, if_neg (by omega)]
  | succ n ih =>
    intro hn j
    have ih := ih (by omega)
    rw [hs n (by omega) (fun j hj => by rw [ih j, if_neg (by omega)])]
    unfold upd
    by_cases e : j = 4096 * qn + n
    · rw [if_pos e, if_pos (by omega), e, Nat.add_sub_cancel_left]
    · rw [if_neg e, ih j]
      by_cases e2 : 4096 * qn ≤ j ∧ j < 4096 * qn + n
      · rw [if_pos e2, if_pos (by omega)]
      · rw [if_neg e2, if_neg (by omega)]
theorem zq_new {fn qn : Nat} {an an2 : Nat → Int64} {tr tr2 : Nat → Int32} {B : Nat → Int64} {V : Nat → Int32} (hf : fn ≤ 12) (h : rq fn qn an tr) (h1 : oo_01 tr)
    (hA : ∀ j, an2 j = if qn * 64 ≤ j ∧ j < qn * 64 + 64 then B (j - qn * 64) else an j) (hT : ∀ j, tr2 j = if 4096 * qn ≤ j ∧ j < 4096 * qn + 4096 then V (j - 4096 * qn) else tr j)
    (hB : ∀ b k, b < 64 → k < 64 → ((B b).toBitVec.getLsbD k = true ↔ V (64 * b + k) = 1)) (hV : ∀ w, w < 4096 → V w = V (w % 2 ^ fn)) (hV1 : ∀ w, V w = 0 ∨ V w = 1) :
    oo_01 tr2 ∧ rq fn (qn + 1) an2 tr2 := by
  have hp := zt_pw hf
  refine ⟨fun j => ?_, fun q b k hq hb hk => ?_, fun q w hq hw => ?_⟩
  · rw [hT j]; split
    · exact hV1 _
    · exact h1 j
  · rw [hA, hT]
    by_cases e : q = qn
    · subst e
      rw [if_pos (by omega), if_pos (by omega), Nat.add_sub_cancel_left, Nat.add_sub_cancel_left]
      exact hB b k hb hk
    · rw [if_neg (by omega), if_neg (by omega)]
      exact h.1 q b k (by omega) hb hk
  · have hm : w % 2 ^ fn < 4096 := Nat.lt_of_le_of_lt (Nat.mod_le _ _) hw
    rw [hT, hT (4096 * q + w % 2 ^ fn)]
    by_cases e : q = qn
    · subst e
      rw [if_pos (by omega), if_pos (by omega), Nat.add_sub_cancel_left, Nat.add_sub_cancel_left]
      exact hV w hw
    · rw [if_neg (by omega), if_neg (by omega)]
      exact h.2 q w (by omega) hw
theorem zq_full {qn : Nat} (h : qn ≤ 40) : (kvX0_isFull qn = 0 ∧ qn < 40 ∧ ¬ nI qn = nI 40) ∨ (¬ kvX0_isFull qn = 0 ∧ nI qn = nI 40) := by
  unfold kvX0_isFull
  by_cases e : qn < 40
  · rw [if_pos (nI_lt e (by decide))]
    exact Or.inl ⟨rfl, e, fun z => by have := (nI_eq (by omega) (by decide)).mp z; omega⟩
  · have : qn = 40 := by omega
    subst this
    exact Or.inr ⟨by decide, rfl⟩
theorem zl_set_v {fn qn : Nat} {u d lw uw an : Nat → Int64} {mu md tr : Nat → Int32} (hR : rl fn qn u d lw uw an mu md tr) (w wo : Int32) : kvX0_set fn qn w wo = kvX1_set fn qn w wo := by
  unfold kvX0_set kvX1_set kvX0_keepNext
  rw [(zt_areF hR.1 w).1, (zt_areF hR.1 wo).1]
  rcases zq_full hR.2.1 with ⟨h1, h2, h3⟩ | ⟨h1, h2⟩
  · rw [if_pos h1, if_neg h3]
  · rw [if_neg h1, if_pos h2]
theorem zl_some_v {fn qn : Nat} {u d lw uw an : Nat → Int64} {mu md tr : Nat → Int32} (hR : rl fn qn u d lw uw an mu md tr) (fs : Int32) : kvX0_some fn qn fs = kvX1_some fn qn fs := by
  unfold kvX0_some kvX1_some kvX0_keepNext
  rw [(zt_areF hR.1 fs).1]
  rcases zq_full hR.2.1 with ⟨h1, h2, h3⟩ | ⟨h1, h2⟩
  · rw [if_pos h1, if_neg h3]
  · rw [if_neg h1, if_pos h2]
theorem zl_join_v {fn qn : Nat} {u d lw uw an : Nat → Int64} {mu md tr : Nat → Int32} (hR : rl fn qn u d lw uw an mu md tr) (op q r : Int32) : kvX0_join qn op q r = kvX1_join qn op q r := by
  unfold kvX0_join kvX1_join kvX0_keepNext
  show (if op < 0 then (-1 : Int32) else if 3 < op then -1 else if kvX0_isQuestion qn q = 0 then -1 else _) = (if op < 0 then (-1 : Int32) else if 3 < op then -1 else if kvX0_isQuestion qn q = 0 then -1 else (if 3 ≤ op then (if nI qn = nI 40 then -3 else nI qn) else (if kvX0_isQuestion qn r = 0 then -1 else (if nI qn = nI 40 then -3 else nI qn))))
  by_cases g1 : op < 0
  · rw [if_pos g1, if_pos g1]
  by_cases g2 : 3 < op
  · rw [if_neg g1, if_neg g1, if_pos g2, if_pos g2]
  rw [if_neg g1, if_neg g1, if_neg g2, if_neg g2]
  have g3 : op = 3 ↔ 3 ≤ op := by
    rw [fa_lt] at g2; rw [fa_le, fa_eq]
    omega
  simp only [← g3]
  rcases zq_full hR.2.1 with ⟨h1, h2, h3⟩ | ⟨h1, h2⟩
  · simp only [if_pos h1, if_neg h3]
  · simp only [if_neg h1, if_pos h2]
theorem zl_set {fn qn : Nat} {u d lw uw an : Nat → Int64} {mu md tr : Nat → Int32} (hR : rl fn qn u d lw uw an mu md tr) (w wo : Int32) : ∃ qn9 : Nat, kvX0_set_qc fn qn w wo = nI qn9 ∧ kvX1_set_qc fn qn w wo = nI qn9 ∧ rl fn qn9 u d lw uw (kvX0_set_an an fn qn w wo) mu md (kvX1_set_tr tr fn qn w wo) := by
  unfold kvX0_set_qc kvX1_set_qc kvX0_set_an kvX1_set_tr
  obtain ⟨f1, f2⟩ := zt_areF hR.1 w
  obtain ⟨f3, f4⟩ := zt_areF hR.1 wo
  rw [← f1, ← f3]
  by_cases g1 : kvX0_areFacts fn w = 0
  · simp only [if_pos g1]; exact ⟨qn, rfl, rfl, hR⟩
  by_cases g2 : kvX0_areFacts fn wo = 0
  · simp only [if_neg g1, if_pos g2]; exact ⟨qn, rfl, rfl, hR⟩
  simp only [if_neg g1, if_neg g2]
  rcases zq_full hR.2.1 with ⟨h1, h2, h3⟩ | ⟨h1, h2⟩
  · simp only [if_pos h1, if_neg h3]
    refine ⟨qn + 1, rfl, rfl, hR.1, by omega, ?_⟩
    obtain ⟨a, ha, rfl⟩ := f2 g1
    obtain ⟨c, hc, rfl⟩ := f4 g2
    have hN := zq_new (an := an) (tr := tr) (B := fun n => kvX0_setBlock (nI n) (nI a) (nI c)) (V := fun n => if (nI n &&& nI a) = nI a then (if (nI n &&& nI c) = 0 then 1 else 0) else 0) hR.1 hR.2.2.2.1 hR.2.2.1
      (zq_A (an := an) (G := kl_setA an qn (nI a) (nI c)) (B := fun n => kvX0_setBlock (nI n) (nI a) (nI c)) h2 rfl (fun n _ _ => rfl) 64 (Nat.le_refl _))
      (zq_T (tr := tr) (G := kl_setT tr qn (nI a) (nI c)) (V := fun n => if (nI n &&& nI a) = nI a then (if (nI n &&& nI c) = 0 then 1 else 0) else 0) rfl (fun n _ _ => by
        simp only [kl_setT]
        repeat' split
        all_goals rfl) 4096 (Nat.le_refl _)) ?_ ?_ ?_
    · exact ⟨hN.1, hN.2, hR.2.2.2.2⟩
    · intro b k hb hk
      have hx : ∀ n, n ≤ 64 → ((kl_setB (nI b) (nI a) (nI c) n).toBitVec.getLsbD k = true ↔ k < n ∧ (nI (64 * b + k) &&& nI a) = nI a ∧ (nI (64 * b + k) &&& nI c) = 0) := by
        intro n
        induction n with
        | zero => intro _; simp only [kl_setB]; exact ⟨fun z => by simp at z, fun z => absurd z.1 (by omega)⟩
        | succ n ih =>
          intro hn
          have ih := ih (by omega)
          simp only [kl_setB]
          have e0 : nI b * nI 64 + nI n = nI (64 * b + n) := by rw [Nat.mul_comm, ← nI_add, nI, nI, nI, ← Int32.ofNat_mul]; rfl
          rw [e0]
          by_cases e1 : (nI (64 * b + n) &&& nI a) = nI a
          · rw [if_pos e1]
            by_cases e2 : (nI (64 * b + n) &&& nI c) = 0
            · rw [if_pos e2, zt_lor (by omega) hk, Bool.or_eq_true, ih, decide_eq_true_iff]
              constructor
              · rintro (⟨z1, z2⟩ | z)
                · exact ⟨by omega, z2⟩
                · subst z; exact ⟨by omega, e1, e2⟩
              · rintro ⟨z1, z2⟩
                by_cases e3 : k = n
                · exact Or.inr e3
                · exact Or.inl ⟨by omega, z2⟩
            · rw [if_neg e2, ih]
              exact ⟨fun z => ⟨by omega, z.2⟩, fun z => ⟨by
                by_cases e3 : k = n
                · subst e3; exact absurd z.2.2 e2
                · omega, z.2⟩⟩
          · rw [if_neg e1, ih]
            exact ⟨fun z => ⟨by omega, z.2⟩, fun z => ⟨by
                by_cases e3 : k = n
                · subst e3; exact absurd z.2.1 e1
                · omega, z.2⟩⟩
      refine (hx 64 (Nat.le_refl _)).trans ?_
      constructor
      · rintro ⟨_, z1, z2⟩; show (if _ then _ else _) = _; rw [if_pos z1, if_pos z2]
      · intro z
        try simp only [] at z
        refine ⟨hk, ?_⟩
        by_cases e1 : (nI (64 * b + k) &&& nI a) = nI a
        · rw [if_pos e1] at z
          by_cases e2 : (nI (64 * b + k) &&& nI c) = 0
          · exact ⟨e1, e2⟩
          · rw [if_neg e2] at z; exact absurd z (by decide)
        · rw [if_neg e1] at z; exact absurd z (by decide)
    · intro w hw
      simp only [fa_and, zt_and_mod ha, zt_and_mod hc]
    · intro w
      try simp only []
      repeat' split
      all_goals first | exact Or.inl rfl | exact Or.inr rfl
  · simp only [if_neg h1, if_pos h2]; exact ⟨qn, rfl, rfl, hR⟩
