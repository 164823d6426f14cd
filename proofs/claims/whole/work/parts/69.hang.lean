/-! hangs; the count of worlds -/
theorem zx_hgI {tr : Nat → Int32} {q i : Nat} (a : Int32) : ∀ n : Nat, kl_mhI tr q i a n = if (∀ w, w < n → tr (4096 * q + w) = tr (4096 * q + (w ^^^ 2 ^ i))) then a else a ||| nI (2 ^ i) := by
  have ho : ∀ x y : Int32, x ||| y ||| y = x ||| y := by
    intro x y
    apply Int32.toBitVec_inj.mp
    rw [Int32.toBitVec_or, Int32.toBitVec_or, BitVec.or_assoc, BitVec.or_self]
  intro n
  induction n with
  | zero => simp only [kl_mhI]; rw [if_pos (fun w hw => absurd hw (by omega))]
  | succ n ih =>
    simp only [kl_mhI]
    rw [ih]
    by_cases e : tr (4096 * q + n) = tr (4096 * q + (n ^^^ 2 ^ i))
    · rw [if_pos e, Int32.or_zero]
      by_cases z : ∀ w, w < n → tr (4096 * q + w) = tr (4096 * q + (w ^^^ 2 ^ i))
      · rw [if_pos z, if_pos (fun w hw => by
          by_cases e2 : w = n
          · rw [e2]; exact e
          · exact z w (by omega))]
      · rw [if_neg z, if_neg (fun y => z (fun w hw => y w (by omega)))]
    · rw [if_neg e, if_neg (fun y => e (y n (by omega)))]
      split
      · rfl
      · exact ho _ _
theorem zx_x64 : ∀ (k : Fin 64) (f : Fin 6), ((64 * k.val) ^^^ 2 ^ (6 + f.val)) = 64 * (k.val ^^^ 2 ^ f.val) ∧ (k.val ^^^ 2 ^ f.val) < 64 := by decide +kernel
theorem zx_xs (k f : Nat) : k ^^^ 2 ^ f = if k.testBit f then k - 2 ^ f else k + 2 ^ f := by
  by_cases h : k.testBit f = true
  · rw [if_pos h]
    have h1 : (k - 2 ^ f) ^^^ 2 ^ f = k := by
      have hb := Nat.testBit_implies_ge h
      apply Nat.eq_of_testBit_eq
      intro i
      have e1 : k = 2 ^ f + (k - 2 ^ f) := by omega
      by_cases e : i = f
      · subst e
        rw [Nat.testBit_xor, Nat.testBit_two_pow_self]
        have e2 := Nat.testBit_two_pow_add_eq (k - 2 ^ i) i
        rw [← e1, h] at e2
        rw [h]; revert e2; cases (k - 2 ^ i).testBit i <;> decide
      · sorry
    rw [← h1, Nat.xor_assoc, Nat.xor_self, Nat.xor_zero, h1]
  · sorry
