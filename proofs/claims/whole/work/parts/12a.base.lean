/-! the base of the numbers -/
theorem zt_cmp (x y : Int64) : (lg_cmp x y = 0 ↔ x = y) := by
  unfold lg_cmp
  by_cases h : x > y
  · rw [if_pos h]
    constructor
    · intro e; exact absurd e (by decide)
    · intro e; subst e; exact absurd ((fa_lt64 _ _).mp h) (by omega)
  · rw [if_neg h]
    by_cases e : x = y
    · rw [if_pos e]; exact ⟨fun _ => e, fun _ => rfl⟩
    · rw [if_neg e]; exact ⟨fun h2 => absurd h2 (by decide), fun h2 => absurd h2 e⟩
theorem zt_le (x y : Int64) : (lg_cmp x y ≤ 0 ↔ x.toInt ≤ y.toInt) := by
  unfold lg_cmp
  by_cases h : x > y
  · rw [if_pos h]
    have h2 := (fa_lt64 _ _).mp h
    exact ⟨fun e => absurd e (by decide), fun e => by omega⟩
  · rw [if_neg h]
    have h2 : ¬ y.toInt < x.toInt := fun z => h ((fa_lt64 _ _).mpr z)
    by_cases e : x = y
    · rw [if_pos e]; exact ⟨fun _ => by omega, fun _ => by decide⟩
    · rw [if_neg e]; exact ⟨fun _ => by omega, fun _ => by decide⟩
theorem zt_ge (x y : Int64) : (0 ≤ lg_cmp x y ↔ y.toInt ≤ x.toInt) := by
  unfold lg_cmp
  by_cases h : x > y
  · rw [if_pos h]
    have h2 := (fa_lt64 _ _).mp h
    exact ⟨fun e => by omega, fun e => by decide⟩
  · rw [if_neg h]
    have h2 : ¬ y.toInt < x.toInt := fun z => h ((fa_lt64 _ _).mpr z)
    by_cases e : x = y
    · rw [if_pos e]; subst e; exact ⟨fun _ => by omega, fun _ => by decide⟩
    · rw [if_neg e]
      have h3 : ¬ x.toInt = y.toInt := fun z => e ((fa_eq64 _ _).mpr z)
      exact ⟨fun z => absurd z (by decide), fun _ => by omega⟩
theorem zt_at {n k : Nat} {f : Nat → Int64} (hk : k < n) (hn : n < 2 ^ 31) : kvX0_at n f (nI k) = f k := by
  unfold kvX0_at
  rw [if_neg (nI_pos (by omega)), if_neg (nI_ge hk hn), nI_clamp (by omega)]
theorem zt_put {n k : Nat} {f : Nat → Int64} {v : Int64} (hk : k < n) (hn : n < 2 ^ 31) : kvX0_put_c0 n f (nI k) v = vp_updL f k v := by
  unfold kvX0_put_c0
  rw [if_neg (nI_pos (by omega)), if_neg (nI_ge hk hn), nI_clamp (by omega)]
theorem zt_isQ {qn : Nat} {q : Int32} (hq : qn ≤ 40) (h : ¬ kvX0_isQuestion qn q = 0) : ∃ j : Nat, j < qn ∧ q = nI j := by
  unfold kvX0_isQuestion at h
  split at h
  · exact absurd rfl h
  split at h
  · exact absurd rfl h
  rename_i h1 h2
  obtain ⟨j, h3, h4, -⟩ := pk_mu h1 h2 (by omega)
  exact ⟨j, h3, h4⟩
theorem zt_isQ1 {qn j : Nat} (hq : qn ≤ 40) (hj : j < qn) : kvX0_isQuestion qn (nI j) = 1 := by
  unfold kvX0_isQuestion
  rw [if_neg (nI_pos (by omega)), if_neg (nI_ge hj (by omega))]
theorem zt_block {qn q k : Nat} {an : Nat → Int64} (hq : qn ≤ 40) (h : q < qn) (hk : k < 64) : kvX0_blockOf an qn (nI q) (nI k) = an (q * 64 + k) := by
  unfold kvX0_blockOf
  rw [zt_isQ1 hq h, if_neg (by decide), if_neg (nI_pos (by omega)), if_pos (nI_lt hk (by decide)), show nI q * nI 64 + nI k = nI (q * 64 + k) from by rw [← nI_add, nI, nI, nI, ← Int32.ofNat_mul]; rfl, zt_at (by omega) (by decide)]
theorem zt_bit {b : Int64} {k : Nat} (hk : k < 64) : kvX0_isBitOn b (nI k) = if b.toBitVec.getLsbD k = true then 1 else 0 := by
  unfold kvX0_isBitOn
  have h := ts_bit (w := b) (s := (nI k).toInt64.toUInt64 &&& Int64.toUInt64 63) hk (by rw [wb_cu k hk]; exact u_tn (by omega))
  by_cases hb : b.toBitVec.getLsbD k = true
  · rw [if_pos hb, if_neg]
    intro e
    rw [zt_cmp, h, hb] at e
    exact absurd e (by decide)
  · rw [if_neg hb, if_pos]
    rw [zt_cmp, h]
    exact Bool.eq_false_iff.mpr hb
theorem zt_lor {x : Int64} {n k : Nat} (hn : n < 64) (hk : k < 64) : (x ||| ((1 : Int64) <<< ((nI n).toInt64 &&& 63))).toBitVec.getLsbD k = (x.toBitVec.getLsbD k || decide (k = n)) := by
  rw [show (1 : Int64) = lN 1 from rfl, wb_shl 1 hn, Int64.toBitVec_or, BitVec.getLsbD_or, wb_tb, Nat.one_mul, BitVec.getLsbD_ofNat, Nat.testBit_two_pow]
  simp only [hk, decide_true, Bool.true_and]
  congr 1
  exact decide_eq_decide.mpr ⟨fun h => h.symm, fun h => h.symm⟩
theorem zt_and_mod {n a k : Nat} (h : a < 2 ^ k) : n % 2 ^ k &&& a = n &&& a := by
  apply Nat.eq_of_testBit_eq
  intro i
  rw [Nat.testBit_and, Nat.testBit_and, Nat.testBit_mod_two_pow]
  by_cases hi : i < k
  · simp [hi]
  · rw [Nat.testBit_lt_two_pow (Nat.lt_of_lt_of_le h (Nat.pow_le_pow_right (by decide) (by omega)))]
    simp
theorem zt_bvm (x m : BitVec 32) : x &&& (m ^^^ BitVec.allOnes 32) = 0#32 ↔ x &&& m = x := by
  have hb : ∀ i, i < 32 → (BitVec.allOnes 32).getLsbD i = true := fun i hi => by rw [BitVec.getLsbD_allOnes]; exact decide_eq_true hi
  constructor
  · intro h
    apply BitVec.eq_of_getLsbD_eq
    intro i hi
    have h2 := congrArg (fun z => BitVec.getLsbD z i) h
    simp only [BitVec.getLsbD_and, BitVec.getLsbD_xor, BitVec.getLsbD_zero, hb i hi] at h2 ⊢
    revert h2
    cases x.getLsbD i <;> cases m.getLsbD i <;> decide
  · intro h
    apply BitVec.eq_of_getLsbD_eq
    intro i hi
    have h2 := congrArg (fun z => BitVec.getLsbD z i) h
    simp only [BitVec.getLsbD_and, BitVec.getLsbD_xor, BitVec.getLsbD_zero, hb i hi] at h2 ⊢
    revert h2
    cases x.getLsbD i <;> cases m.getLsbD i <;> decide
theorem zt_pw {fn : Nat} (h : fn ≤ 12) : 1 ≤ 2 ^ fn ∧ 2 ^ fn ≤ 4096 := ⟨Nat.one_le_two_pow, show 2 ^ fn ≤ 2 ^ 12 from Nat.pow_le_pow_right (by decide) h⟩
theorem zt_all {fn : Nat} (h : fn ≤ 12) : kvX0_allFacts fn = nI (2 ^ fn - 1) := by
  unfold kvX0_allFacts
  have hp := zt_pw h
  rw [oo_shl1 fn (by omega), show 2 ^ fn = (2 ^ fn - 1) + 1 from by omega, nI_pred]
  rfl
theorem zt_masked {fn n : Nat} : nI n &&& nI (2 ^ fn - 1) = nI (n % 2 ^ fn) := fa_mask n fn
theorem zt_areF {fn : Nat} (h : fn ≤ 12) (bs : Int32) : kvX0_areFacts fn bs = kvX1_areFacts fn bs ∧ (¬ kvX0_areFacts fn bs = 0 → ∃ a : Nat, a < 2 ^ fn ∧ bs = nI a) := by
  have hp := zt_pw h
  have h1 : (bs &&& (kvX0_allFacts fn ^^^ (-1 : Int32))) = 0 ↔ bs &&& kvX0_allFacts fn = bs := by
    have h2 := zt_bvm bs.toBitVec (kvX0_allFacts fn).toBitVec
    constructor
    · intro h3
      have h4 := congrArg Int32.toBitVec h3
      rw [Int32.toBitVec_and, Int32.toBitVec_xor] at h4
      exact Int32.toBitVec_inj.mp (by rw [Int32.toBitVec_and]; exact h2.mp h4)
    · intro h3
      have h4 := congrArg Int32.toBitVec h3
      rw [Int32.toBitVec_and] at h4
      exact Int32.toBitVec_inj.mp (by rw [Int32.toBitVec_and, Int32.toBitVec_xor]; exact h2.mpr h4)
  obtain ⟨n, hn, rfl⟩ := wb_of32 bs
  have h5 : nI n &&& kvX0_allFacts fn = nI n ↔ n < 2 ^ fn := by
    rw [zt_all h, zt_masked]
    have h6 := Nat.mod_lt n (show 0 < 2 ^ fn by omega)
    constructor
    · intro e
      have e2 := congrArg (fun z : Int32 => z.toBitVec.toNat) e
      have e3 : ∀ m : Nat, m < 2 ^ 32 → (nI m).toBitVec.toNat = m := fun m hm => by
        show (BitVec.ofNat 32 m).toNat = m
        rw [BitVec.toNat_ofNat, Nat.mod_eq_of_lt hm]
      have e4 : (nI (n % 2 ^ fn)).toBitVec.toNat = (nI n).toBitVec.toNat := e2
      rw [e3 _ (by omega), e3 _ hn] at e4
      omega
    · intro e
      rw [Nat.mod_eq_of_lt e]
  have h7 : kvX1_areFacts fn (nI n) = if n < 2 ^ fn then 1 else 0 := by
    unfold kvX1_areFacts
    by_cases e : n < 2 ^ fn
    · rw [if_pos e, if_neg (nI_pos (by omega)), if_neg (nI_ge e (by omega))]
    · rw [if_neg e]
      by_cases e2 : n < 2 ^ 31
      · rw [if_neg (nI_pos e2), if_pos (nI_le (by omega) e2)]
      · rw [if_pos]
        rw [fa_lt]
        show (BitVec.ofNat 32 n).toInt < 0
        rw [BitVec.toInt_eq_toNat_cond, BitVec.toNat_ofNat, Nat.mod_eq_of_lt hn]
        split <;> omega
  have h8 : kvX0_areFacts fn (nI n) = if n < 2 ^ fn then 1 else 0 := by
    unfold kvX0_areFacts
    by_cases e : n < 2 ^ fn
    · rw [if_pos e, if_pos (h1.mpr (h5.mpr e))]
    · rw [if_neg e, if_neg (fun e2 => e (h5.mp (h1.mp e2)))]
  refine ⟨by rw [h7, h8], fun h9 => ⟨n, ?_, rfl⟩⟩
  by_cases e : n < 2 ^ fn
  · exact e
  · rw [h8, if_neg e] at h9
    exact absurd rfl h9
theorem zt_areO {up dn : Int32} (h : ¬ kvX0_areOdds up dn = 0) : ∃ a b : Nat, up = nI a ∧ dn = nI b ∧ a ≤ b ∧ 1 ≤ b ∧ b ≤ 8 := by
  unfold kvX0_areOdds at h
  repeat' split at h
  all_goals first | exact absurd rfl h | skip
  rename_i h1 h2 h3 h4
  rw [fa_lt] at h1 h2 h3 h4
  rw [show (1 : Int32).toInt = 1 from rfl] at h1
  rw [show (nI 8).toInt = 8 from rfl] at h2
  rw [show (0 : Int32).toInt = 0 from rfl] at h3
  refine ⟨up.toInt.toNat, dn.toInt.toNat, ?_, ?_, by omega, by omega, by omega⟩
  · rw [fa_eq, nI_toInt (by omega)]; omega
  · rw [fa_eq, nI_toInt (by omega)]; omega
theorem zt_c4 {q b k : Nat} (hb : b < 64) (hk : k < 64) : 64 * b + k < 4096 := by omega
