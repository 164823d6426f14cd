/-! doubles: the ratio alone decides -/
theorem zf_k : FP.Core.b64.qmin = -1074 ∧ FP.Core.b64.qmax = 971 ∧ FP.Core.b64.tails = 4503599627370496 ∧ FP.Core.b64.exps = 2048 ∧ FP.Core.b64.p = 53 := by decide +kernel
theorem zf_dec {c : Nat} {q : Int} (h1 : 2 ^ 52 ≤ c) (h2 : c < 2 ^ 53) (h3 : -1074 ≤ q) (h4 : q ≤ 971) : FP.Core.encode FP.Core.b64 (.fin false c q) < 2047 * 2 ^ 52 ∧ FP.Core.decode FP.Core.b64 (FP.Core.encode FP.Core.b64 (.fin false c q)) = .fin false c q := by
  obtain ⟨k1, k2, k3, k4, k5⟩ := zf_k
  have hE : FP.Core.encode FP.Core.b64 (.fin false c q) = ((q + 1074).toNat + 1) * 4503599627370496 + (c - 4503599627370496) := by
    show (if c < FP.Core.b64.tails then _ else _) = _
    rw [if_neg (by rw [k3]; omega)]
    unfold FP.Core.assemble
    rw [k1, k3, k4]
    simp
  obtain ⟨E, hE2⟩ : ∃ E : Nat, E = (q + 1074).toNat + 1 := ⟨_, rfl⟩
  rw [← hE2] at hE
  rw [hE]
  refine ⟨by omega, ?_⟩
  unfold FP.Core.decode FP.Core.fieldE FP.Core.fieldT FP.Core.fieldS
  rw [k1, k3, k4]
  have m1 : (E * 4503599627370496 + (c - 4503599627370496)) / 4503599627370496 = E := by omega
  have m2 : (E * 4503599627370496 + (c - 4503599627370496)) % 4503599627370496 = c - 4503599627370496 := by omega
  rw [m1, m2, Nat.mod_eq_of_lt (show E < 2048 by omega), Nat.div_eq_of_lt (show E < 2048 by omega)]
  rw [if_neg (by omega), if_neg (by omega)]
  have m3 : 4503599627370496 + (c - 4503599627370496) = c := by omega
  have m4 : (-1074 : Int) + ((E : Int) - 1) = q := by omega
  rw [m3, m4]
  rfl
theorem zf_near {n d n2 d2 : Nat} (h : 0 < d) (h2 : 0 < d2) (e : n * d2 = n2 * d) : FP.Core.nearest n d = FP.Core.nearest n2 d2 := by
  have key : ∀ k n d : Nat, 0 < k → FP.Core.nearest (k * n) (k * d) = FP.Core.nearest n d := by
    intro k n d hk
    unfold FP.Core.nearest
    rw [Nat.mul_mod_mul_left, Nat.mul_div_mul_left _ _ hk, Nat.mul_left_comm]
    have e1 : k * (2 * (n % d)) < k * d ↔ 2 * (n % d) < d := Nat.mul_lt_mul_left hk
    have e2 : k * d < k * (2 * (n % d)) ↔ d < 2 * (n % d) := Nat.mul_lt_mul_left hk
    simp only [e1, e2]
  rw [← key d2 n d h2, ← key d n2 d2 h, Nat.mul_comm d2 n, e, Nat.mul_comm n2 d, Nat.mul_comm d2 d]
theorem zf_log {A : Nat} (h1 : 2 ^ 52 ≤ A) (h2 : A < 2 ^ 53) : A.log2 = 52 := (Nat.log2_eq_iff (by omega)).mpr ⟨h1, h2⟩
theorem zf_R {A B : Nat} {e : Int} (a1 : 2 ^ 52 ≤ A) (a2 : A < 2 ^ 53) (b1 : 2 ^ 52 ≤ B) (b2 : B < 2 ^ 53) (e1 : -100 ≤ e) (e2 : e ≤ 100) :
    FP.Core.roundRatio FP.Core.b64 false A B e = if B ≤ A then FP.Core.settle FP.Core.b64 false (FP.Core.nearest (A * 2 ^ 52) B) (e - 52) else FP.Core.settle FP.Core.b64 false (FP.Core.nearest (A * 2 ^ 53) B) (e - 53) := by
  obtain ⟨k1, k2, k3, k4, k5⟩ := zf_k
  have hl : FP.Core.leading A B = if B ≤ A then 0 else -1 := by
    unfold FP.Core.leading
    rw [zf_log a1 a2, zf_log b1 b2]
    simp
  unfold FP.Core.roundRatio
  rw [if_neg (by omega)]
  unfold FP.Core.roundAt FP.Core.quantum
  rw [hl, k1, k5]
  by_cases h : B ≤ A
  · rw [if_pos h, if_pos h]
    have hq : max (-1074 : Int) (0 + e - (((53 : Nat) : Int) - 1)) = e - 52 := by omega
    rw [hq]
    unfold FP.Core.unitsNum FP.Core.unitsDen
    rw [show (e - (e - 52)).toNat = 52 from by omega, show (e - 52 - e).toNat = 0 from by omega, Nat.pow_zero, Nat.mul_one]
  · rw [if_neg h, if_neg h]
    have hq : max (-1074 : Int) (-1 + e - (((53 : Nat) : Int) - 1)) = e - 53 := by omega
    rw [hq]
    unfold FP.Core.unitsNum FP.Core.unitsDen
    rw [show (e - (e - 53)).toNat = 53 from by omega, show (e - 53 - e).toNat = 0 from by omega, Nat.pow_zero, Nat.mul_one]
theorem zf_same {A B A2 B2 d : Nat} {e e2 : Int} (a1 : 2 ^ 52 ≤ A) (a2 : A < 2 ^ 53) (b1 : 2 ^ 52 ≤ B) (b2 : B < 2 ^ 53) (a3 : 2 ^ 52 ≤ A2) (a4 : A2 < 2 ^ 53) (b3 : 2 ^ 52 ≤ B2) (b4 : B2 < 2 ^ 53)
    (x1 : -100 ≤ e) (x2 : e ≤ 100) (x3 : -100 ≤ e2) (x4 : e2 ≤ 100) (hd : e2 = e + d) (h : A * B2 = A2 * B * 2 ^ d) : FP.Core.roundRatio FP.Core.b64 false A B e = FP.Core.roundRatio FP.Core.b64 false A2 B2 e2 := by
  rw [zf_R a1 a2 b1 b2 x1 x2, zf_R a3 a4 b3 b4 x3 x4]
  have q1 : A * B2 < 2 ^ 53 * 2 ^ 53 := Nat.mul_lt_mul_of_lt_of_lt a2 b4
  have q2 : 2 ^ 52 * 2 ^ 52 ≤ A2 * B := Nat.mul_le_mul a3 b1
  match d, hd, h with
  | 0, hd, h =>
    rw [Nat.pow_zero, Nat.mul_one] at h
    have hee : e2 = e := by omega
    subst hee
    have hc : B ≤ A ↔ B2 ≤ A2 := by
      constructor
      · intro z
        have z2 : B * B2 ≤ A * B2 := Nat.mul_le_mul z (Nat.le_refl _)
        rw [h, Nat.mul_comm A2 B] at z2
        exact Nat.le_of_mul_le_mul_left z2 (by omega)
      · intro z
        have z2 : B2 * B ≤ A2 * B := Nat.mul_le_mul z (Nat.le_refl _)
        rw [← h, Nat.mul_comm A B2] at z2
        exact Nat.le_of_mul_le_mul_left z2 (by omega)
    have n1 : ∀ k, FP.Core.nearest (A * k) B = FP.Core.nearest (A2 * k) B2 := fun k => zf_near (by omega) (by omega) (by rw [Nat.mul_right_comm, h, Nat.mul_right_comm])
    simp only [hc, n1]
  | 1, hd, h =>
    rw [Nat.pow_one] at h
    have c1 : B ≤ A := by
      refine Nat.le_of_mul_le_mul_right (c := B2) ?_ (by omega)
      rw [h]
      have : B * B2 ≤ B * (A2 * 2) := Nat.mul_le_mul (Nat.le_refl _) (by omega)
      rw [Nat.mul_comm A2 B, Nat.mul_assoc]; exact this
    have c2 : ¬ B2 ≤ A2 := by
      intro z
      have z1 : B2 * (B * 2) ≤ A2 * (B * 2) := Nat.mul_le_mul z (Nat.le_refl _)
      rw [← Nat.mul_assoc A2, ← h, Nat.mul_comm A B2] at z1
      have := Nat.le_of_mul_le_mul_left z1 (by omega)
      omega
    rw [if_pos c1, if_neg c2, show e2 - 53 = e - 52 from by omega]
    have hx : A * 2 ^ 52 * B2 = A2 * 2 ^ 53 * B := by
      rw [Nat.mul_right_comm, h, Nat.mul_right_comm A2 (2 ^ 53) B, Nat.mul_assoc (A2 * B)]
    have hn := zf_near (show 0 < B by omega) (show 0 < B2 by omega) hx
    rw [hn]
  | d + 2, hd, h =>
    exfalso
    have q3 : 2 ^ 2 ≤ 2 ^ (d + 2) := Nat.pow_le_pow_right (by decide) (by omega)
    have q4 : 2 ^ 52 * 2 ^ 52 * 2 ^ 2 ≤ A2 * B * 2 ^ (d + 2) := Nat.mul_le_mul q2 q3
    rw [← h] at q4
    omega
theorem zf_fin {A B : Nat} {e : Int} (a1 : 2 ^ 52 ≤ A) (a2 : A < 2 ^ 53) (b1 : 2 ^ 52 ≤ B) (b2 : B < 2 ^ 53) (e1 : -100 ≤ e) (e2 : e ≤ 100) : ∃ (c : Nat) (q : Int), 2 ^ 52 ≤ c ∧ c < 2 ^ 53 ∧ -1074 ≤ q ∧ q ≤ 971 ∧ FP.Core.roundRatio FP.Core.b64 false A B e = .fin false c q := by
  obtain ⟨k1, k2, k3, k4, k5⟩ := zf_k
  rw [zf_R a1 a2 b1 b2 e1 e2]
  have st : ∀ (N : Nat) (q : Int), 2 ^ 52 ≤ N → N ≤ 2 ^ 53 → -1074 ≤ q → q ≤ 900 → ∃ (c : Nat) (q2 : Int), 2 ^ 52 ≤ c ∧ c < 2 ^ 53 ∧ -1074 ≤ q2 ∧ q2 ≤ 971 ∧ FP.Core.settle FP.Core.b64 false N q = .fin false c q2 := by
    intro N q n1 n2 n3 n4
    unfold FP.Core.settle FP.Core.bound
    rw [k2, k3, k5]
    by_cases h : N < 2 ^ 53
    · rw [if_pos h, if_pos (by omega)]
      exact ⟨N, q, n1, h, n3, by omega, rfl⟩
    · rw [if_neg h, if_pos (by omega)]
      exact ⟨4503599627370496, q + 1, by omega, by omega, by omega, by omega, rfl⟩
  have nr : ∀ n d : Nat, n / d ≤ FP.Core.nearest n d ∧ FP.Core.nearest n d ≤ n / d + 1 := by
    intro n d
    unfold FP.Core.nearest
    generalize n / d = x
    split
    · omega
    · split
      · omega
      · omega
  by_cases h : B ≤ A
  · rw [if_pos h]
    have n1 := nr (A * 2 ^ 52) B
    have n2 : 2 ^ 52 ≤ A * 2 ^ 52 / B := (Nat.le_div_iff_mul_le (by omega)).mpr (by rw [Nat.mul_comm]; exact Nat.mul_le_mul h (Nat.le_refl _))
    have n3 : A * 2 ^ 52 / B < 2 ^ 53 := (Nat.div_lt_iff_lt_mul (by omega)).mpr (by omega)
    exact st _ _ (by omega) (by omega) (by omega) (by omega)
  · rw [if_neg h]
    have n1 := nr (A * 2 ^ 53) B
    have n2 : 2 ^ 52 ≤ A * 2 ^ 53 / B := (Nat.le_div_iff_mul_le (by omega)).mpr (by omega)
    have n3 : A * 2 ^ 53 / B < 2 ^ 53 := (Nat.div_lt_iff_lt_mul (by omega)).mpr (by omega)
    exact st _ _ (by omega) (by omega) (by omega) (by omega)
