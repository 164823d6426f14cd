/-! hangs -/
theorem zx_oo (x y : Int32) : x ||| y ||| y = x ||| y := by
  apply Int32.toBitVec_inj.mp
  rw [Int32.toBitVec_or, Int32.toBitVec_or, BitVec.or_assoc, BitVec.or_self]
theorem zx_hgI {tr : Nat → Int32} {q i : Nat} (a : Int32) : ∀ n : Nat, kl_mhI tr q i a n = if (∀ w, w < n → tr (4096 * q + w) = tr (4096 * q + (w ^^^ 2 ^ i))) then a else a ||| nI (2 ^ i) := by
  intro n
  induction n with
  | zero => simp only [kl_mhI]; rw [if_pos (fun w hw => absurd hw (by omega))]
  | succ n ih =>
    simp only [kl_mhI]
    by_cases z2 : ∀ w, w < n + 1 → tr (4096 * q + w) = tr (4096 * q + (w ^^^ 2 ^ i))
    · rw [if_pos z2, if_pos (z2 n (Nat.lt_succ_self n)), Int32.or_zero, ih, if_pos (fun w hw => z2 w (by omega))]
    · rw [if_neg z2]
      by_cases e : tr (4096 * q + n) = tr (4096 * q + (n ^^^ 2 ^ i))
      · rw [if_pos e, Int32.or_zero, ih, if_neg (fun y => z2 (fun w hw => by
          by_cases e2 : w = n
          · rw [e2]; exact e
          · exact y w (by omega)))]
      · rw [if_neg e, ih]
        split
        · rfl
        · exact zx_oo _ _
theorem zx_join {k k2 j j2 : Nat} (hj : j < 64) (hj2 : j2 < 64) : (64 * k + j) ^^^ (64 * k2 + j2) = 64 * (k ^^^ k2) + (j ^^^ j2) := by
  have h3 : j ^^^ j2 < 2 ^ 6 := Nat.xor_lt_two_pow hj hj2
  apply Nat.eq_of_testBit_eq
  intro i
  rw [Nat.testBit_xor, show 64 = 2 ^ 6 from rfl, Nat.testBit_two_pow_mul_add _ hj, Nat.testBit_two_pow_mul_add _ hj2, Nat.testBit_two_pow_mul_add _ h3]
  split
  · rw [Nat.testBit_xor]
  · rw [Nat.testBit_xor]
theorem zx_W : ∀ (f : Fin 6) (j : Fin 64), (wo_W f.val).toBitVec.getLsbD j.val = !(j.val.testBit f.val) ∧ (j.val ^^^ 2 ^ f.val) < 64 ∧ (j.val ^^^ 2 ^ f.val) ^^^ 2 ^ f.val = j.val ∧ (j.val.testBit f.val = false → j.val ^^^ 2 ^ f.val = 2 ^ f.val + j.val) ∧ (j.val.testBit f.val = true → (j.val ^^^ 2 ^ f.val).testBit f.val = false) := by decide +kernel
theorem zx_sh {b : Int64} {k j : Nat} (h : k + j < 64) : ((b.toUInt64 >>> ((nI k).toInt64.toUInt64 &&& Int64.toUInt64 63)).toInt64).toBitVec.getLsbD j = b.toBitVec.getLsbD (k + j) := by
  obtain ⟨n, hn, rfl⟩ := wb_of b
  rw [wb_shr hn (by omega), wb_tb, wb_tb, BitVec.getLsbD_ofNat, BitVec.getLsbD_ofNat, Nat.testBit_div_two_pow, Nat.add_comm j k]
  simp only [h, show j < 64 by omega, decide_true]
theorem zx_cw {fn qn : Nat} {an : Nat → Int64} {tr : Nat → Int32} {i k f : Nat} (hq : qn ≤ 40) (h01 : oo_01 tr) (hrq : rq fn qn an tr) (hi : i < qn) (hk : k < 64) (hf : f < 12) :
    kvX0_changesWith an qn wo_W (nI i) (nI k) (nI f) = 0 ↔ ∀ j, j < 64 → tr (4096 * i + (64 * k + j)) = tr (4096 * i + ((64 * k + j) ^^^ 2 ^ f)) := by
  unfold kvX0_changesWith
  by_cases e : 6 ≤ f
  · rw [if_pos (nI_le e (by omega))]
    have e1 : nI f - nI 6 = nI (f - 6) := by
      rw [fa_eq, fb_subI (by rw [nI_toInt (by omega), nI_toInt (by omega)]; omega) (by rw [nI_toInt (by omega), nI_toInt (by omega)]; omega), nI_toInt (by omega), nI_toInt (by omega), nI_toInt (by omega)]; omega
    have e2 : k ^^^ 2 ^ (f - 6) < 64 := Nat.xor_lt_two_pow (n := 6) hk (Nat.pow_lt_pow_right (by decide) (by omega))
    have e3 : 2 ^ f = 64 * 2 ^ (f - 6) + 0 := by rw [show f = 6 + (f - 6) from by omega, Nat.pow_add, Nat.add_sub_cancel_left]; rfl
    rw [e1, oo_shl1 _ (by omega), fb_xorI, zt_block hq hi hk, zt_block hq hi e2]
    have e4 : (∀ j, j < 64 → tr (4096 * i + (64 * k + j)) = tr (4096 * i + ((64 * k + j) ^^^ 2 ^ f))) ↔ an (i * 64 + k) = an (i * 64 + (k ^^^ 2 ^ (f - 6))) := by
      rw [zh_blk h01 hrq hi hi hk e2]
      constructor
      · intro h j hj
        have h2 := h j hj
        rw [e3, zx_join hj (by decide), Nat.xor_zero] at h2
        exact h2
      · intro h j hj
        rw [e3, zx_join hj (by decide), Nat.xor_zero]
        exact h j hj
    rw [e4, ← zt_cmp]
    split
    · rename_i z; exact ⟨fun _ => z, fun _ => rfl⟩
    · rename_i z; exact ⟨fun y => absurd y (by decide), fun y => absurd y z⟩
  · rw [if_neg (nI_ge (by omega) (by omega)), zt_block hq hi hk, oo_shl1 _ (by omega), zt_at (by omega) (by decide)]
    have hX := fun j (hj : j < 64) => zx_W ⟨f, by omega⟩ ⟨j, hj⟩
    simp only [] at hX
    have hb := fun j (hj : j < 64) => hrq.1 i k j hi hk hj
    have e3 : 2 ^ f = 64 * 0 + 2 ^ f := by omega
    have hp : 2 ^ f < 64 := show 2 ^ f < 2 ^ 6 from Nat.pow_lt_pow_right (by decide) (by omega)
    have e4 : ((an (i * 64 + k) ^^^ ((an (i * 64 + k)).toUInt64 >>> ((nI (2 ^ f)).toInt64.toUInt64 &&& Int64.toUInt64 63)).toInt64) &&& wo_W f) = 0 ↔ ∀ j, j < 64 → j.testBit f = false → (an (i * 64 + k)).toBitVec.getLsbD j = (an (i * 64 + k)).toBitVec.getLsbD (j ^^^ 2 ^ f) := by
      constructor
      · intro h j hj hj2
        have h2 := congrArg (fun z : Int64 => z.toBitVec.getLsbD j) h
        have h3 : (((an (i * 64 + k) ^^^ ((an (i * 64 + k)).toUInt64 >>> ((nI (2 ^ f)).toInt64.toUInt64 &&& Int64.toUInt64 63)).toInt64) &&& wo_W f).toBitVec.getLsbD j) = false := by rw [h2]; exact BitVec.getLsbD_zero
        rw [Int64.toBitVec_and, BitVec.getLsbD_and, (hX j hj).1, hj2, Int64.toBitVec_xor, BitVec.getLsbD_xor, zx_sh (by have := (hX j hj).2.2.2.1 hj2; have := (hX j hj).2.1; omega)] at h3
        rw [(hX j hj).2.2.2.1 hj2]
        revert h3
        cases (an (i * 64 + k)).toBitVec.getLsbD j <;> cases (an (i * 64 + k)).toBitVec.getLsbD (2 ^ f + j) <;> decide
      · intro h
        apply wb_inj
        apply BitVec.eq_of_getLsbD_eq
        intro j hj
        rw [Int64.toBitVec_and, BitVec.getLsbD_and, (hX j hj).1]
        by_cases hj2 : j.testBit f = false
        · have h2 := h j hj hj2
          rw [(hX j hj).2.2.2.1 hj2] at h2
          rw [Int64.toBitVec_xor, BitVec.getLsbD_xor, zx_sh (by have := (hX j hj).2.2.2.1 hj2; have := (hX j hj).2.1; omega), h2]
          rw [Bool.xor_self, Bool.false_and]; exact BitVec.getLsbD_zero.symm
        · have hj3 : j.testBit f = true := by revert hj2; cases j.testBit f <;> decide
          rw [hj3, Bool.not_true, Bool.and_false]; exact BitVec.getLsbD_zero.symm
    have e5 : (∀ j, j < 64 → tr (4096 * i + (64 * k + j)) = tr (4096 * i + ((64 * k + j) ^^^ 2 ^ f))) ↔ ∀ j, j < 64 → j.testBit f = false → (an (i * 64 + k)).toBitVec.getLsbD j = (an (i * 64 + k)).toBitVec.getLsbD (j ^^^ 2 ^ f) := by
      have hz : ∀ j, j < 64 → (tr (4096 * i + (64 * k + j)) = tr (4096 * i + ((64 * k + j) ^^^ 2 ^ f)) ↔ (an (i * 64 + k)).toBitVec.getLsbD j = (an (i * 64 + k)).toBitVec.getLsbD (j ^^^ 2 ^ f)) := by
        intro j hj
        have hx : (64 * k + j) ^^^ 2 ^ f = 64 * k + (j ^^^ 2 ^ f) := by
          have := zx_join (k := k) (k2 := 0) hj hp
          rw [Nat.xor_zero] at this
          rw [← this]; congr 1
        rw [hx]
        have h1 := zj_b (h01 _) (hb j hj)
        have h2 := zj_b (h01 _) (hb _ (hX j hj).2.1)
        rcases h1 with ⟨x1, x2⟩ | ⟨x1, x2⟩ <;> rcases h2 with ⟨y1, y2⟩ | ⟨y1, y2⟩ <;> rw [x1, x2, y1, y2] <;> decide
      constructor
      · intro h j hj _
        exact (hz j hj).mp (h j hj)
      · intro h j hj
        rw [hz j hj]
        by_cases hj2 : j.testBit f = false
        · exact h j hj hj2
        · have hj3 : j.testBit f = true := by revert hj2; cases j.testBit f <;> decide
          have h2 := h _ (hX j hj).2.1 ((hX j hj).2.2.2.2 hj3)
          rw [(hX j hj).2.2.1] at h2
          exact h2.symm
    rw [e5, ← e4, ← zt_cmp]
    split
    · rename_i z; exact ⟨fun _ => z, fun _ => rfl⟩
    · rename_i z; exact ⟨fun y => absurd y (by decide), fun y => absurd y z⟩
theorem zx_ho {fn qn : Nat} {an : Nat → Int64} {tr : Nat → Int32} {i f : Nat} (hfn : fn ≤ 12) (hq : qn ≤ 40) (h01 : oo_01 tr) (hrq : rq fn qn an tr) (hi : i < qn) (hf : f < fn) :
    kvX0_hangsOn an qn wo_W (nI i) (nI f) = 0 ↔ ∀ w, w < 2 ^ fn → tr (4096 * i + w) = tr (4096 * i + (w ^^^ 2 ^ f)) := by
  have hp := zt_pw hfn
  have h1 : kvX0_hangsOn an qn wo_W (nI i) (nI f) = 0 ↔ ∀ k : Nat, k < 64 → kvX0_changesWith an qn wo_W (nI i) (nI k) (nI f) = 0 := by
    unfold kvX0_hangsOn
    split
    · rename_i z; exact ⟨fun _ => z, fun _ => rfl⟩
    · rename_i z; exact ⟨fun y => absurd y (by decide), fun y => absurd y z⟩
  rw [h1]
  constructor
  · intro h w hw
    have h2 := (zx_cw hq h01 hrq hi (show w / 64 < 64 by omega) (by omega)).mp (h (w / 64) (by omega)) (w % 64) (by omega)
    rw [show 64 * (w / 64) + w % 64 = w from by omega] at h2
    exact h2
  · intro h k hk
    refine (zx_cw hq h01 hrq hi hk (by omega)).mpr (fun j hj => ?_)
    have hpf : 2 ^ f < 2 ^ fn := Nat.pow_lt_pow_right (by decide) hf
    have h3 : (64 * k + j) ^^^ 2 ^ f < 4096 := Nat.xor_lt_two_pow (n := 12) (show 64 * k + j < 4096 by omega) (by omega)
    have h4 : ((64 * k + j) ^^^ 2 ^ f) % 2 ^ fn = (64 * k + j) % 2 ^ fn ^^^ 2 ^ f := by
      rw [Nat.xor_mod_two_pow, Nat.mod_eq_of_lt hpf]
    rw [hrq.2 i (64 * k + j) hi (by omega), hrq.2 i _ hi h3, h4]
    exact h _ (Nat.mod_lt _ (by omega))
theorem zl_hangs {fn qn : Nat} {u d lw uw an : Nat → Int64} {mu md tr : Nat → Int32} (hR : rl fn qn u d lw uw an mu md tr) (q : Int32) : kvX0_hangs an fn qn wo_W q = kvX1_hangs tr fn qn q := by
  obtain ⟨hf, hq, h01, hrq, -⟩ := hR
  unfold kvX0_hangs kvX1_hangs
  have hQ : kvX1_isQuestion qn q = kvX0_isQuestion qn q := rfl
  rw [hQ]
  by_cases e1 : kvX0_isQuestion qn q = 0
  · rw [if_pos e1, if_pos e1]
  rw [if_neg e1, if_neg e1]
  obtain ⟨i, hi, rfl⟩ := zt_isQ hq e1
  rw [nI_clamp (show i < 2 ^ 31 by omega)]
  have key : ∀ n : Nat, n ≤ fn → kl_hg an qn wo_W (nI i) n = kl_mhO tr fn i n := by
    intro n
    induction n with
    | zero => intro _; rfl
    | succ n ih =>
      intro hn
      simp only [kl_hg, kl_mhO]
      rw [ih (by omega), zx_hgI, oo_shl1 n (by omega)]
      have h := zx_ho hf hq h01 hrq hi (show n < fn by omega)
      by_cases z : ∀ w, w < 2 ^ fn → tr (4096 * i + w) = tr (4096 * i + (w ^^^ 2 ^ n))
      · rw [if_pos z, if_pos (h.mpr z)]
      · rw [if_neg z, if_neg (fun y => z (h.mp y))]
  exact key fn (Nat.le_refl _)
