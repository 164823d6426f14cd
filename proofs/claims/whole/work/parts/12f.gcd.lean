/-! Euclid, chances, given, influence -/
theorem zg_div {a b : Nat} (ha : a < 2 ^ 63) (hb : b < 2 ^ 63) : lN a / lN b = lN (a / b) := by
  have h1 : a / b < 2 ^ 63 := Nat.lt_of_le_of_lt (Nat.div_le_self _ _) ha
  rw [fa_eq64, Int64.toInt_div, pf_lI ha, pf_lI hb, pf_lI h1, ← Int.ofNat_tdiv]
  generalize a / b = x at *
  exact fb_bmodL (by omega) (by omega)
theorem zg_rem {a b : Nat} (ha : a < 2 ^ 63) (hb : b < 2 ^ 63) : lN a - lN a / lN b * lN b = lN (a % b) := by
  have h := Nat.div_mul_le_self a b
  rw [zg_div ha hb, lN_mul, lN_sub h]
  congr 1
  have := Nat.div_add_mod' a b
  omega
def zg_e (a b : Nat) : Nat → Nat × Nat
  | 0 => (a, b)
  | n + 1 => if (zg_e a b n).2 = 0 then zg_e a b n else ((zg_e a b n).2, (zg_e a b n).1 % (zg_e a b n).2)
theorem zg_bd {a b M : Nat} (ha : a < M) (hb : b < M) : ∀ n, (zg_e a b n).1 < M ∧ (zg_e a b n).2 < M := by
  intro n
  induction n with
  | zero => exact ⟨ha, hb⟩
  | succ n ih =>
    simp only [zg_e]
    split
    · exact ih
    · exact ⟨ih.2, Nat.lt_of_le_of_lt (Nat.mod_le _ _) ih.1⟩
theorem zg_l {a b : Nat} (ha : a < 2 ^ 63) (hb : b < 2 ^ 63) : ∀ n, kl_gcd (lN a) (lN b) n = (lN (zg_e a b n).1, lN (zg_e a b n).2) := by
  intro n
  induction n with
  | zero => rfl
  | succ n ih =>
    have hd := zg_bd ha hb n
    simp only [kl_gcd, zg_e, ih]
    have hz : lg_cmp (lN (zg_e a b n).2) 0 = 0 ↔ (zg_e a b n).2 = 0 := by
      rw [zt_cmp]; exact fb_lN_inj (b := 0) hd.2 (by decide)
    by_cases e : (zg_e a b n).2 = 0
    · rw [if_pos (hz.mpr e), if_pos e]
    · rw [if_neg (fun z => e (hz.mp z)), if_neg e, zg_rem hd.1 hd.2]
theorem zg_half (a b : Nat) : ∀ k n : Nat, (zg_e a b n).2 < 2 ^ k → (zg_e a b (n + 2 * k)).2 = 0 := by
  intro k
  induction k with
  | zero => intro n h; rw [Nat.mul_zero, Nat.add_zero]; rw [Nat.pow_zero] at h; omega
  | succ k ih =>
    intro n h
    have h2 : (zg_e a b (n + 2)).2 < 2 ^ k := by
      have hp := Nat.two_pow_pos k
      rw [Nat.pow_succ] at h
      show (zg_e a b (n + 1 + 1)).2 < 2 ^ k
      simp only [zg_e]
      by_cases e : (zg_e a b n).2 = 0
      · simp only [if_pos e]; omega
      · simp only [if_neg e]
        by_cases e2 : (zg_e a b n).1 % (zg_e a b n).2 = 0
        · simp only [if_pos e2]; omega
        · simp only [if_neg e2]
          have h3 := Nat.mod_lt (zg_e a b n).1 (show (zg_e a b n).2 > 0 by omega)
          have h4 := Nat.mod_lt (zg_e a b n).2 (show (zg_e a b n).1 % (zg_e a b n).2 > 0 by omega)
          generalize (zg_e a b n).1 % (zg_e a b n).2 = y at *
          generalize (zg_e a b n).2 = x at *
          by_cases e3 : 2 * y ≤ x
          · omega
          · have h5 := Nat.div_add_mod x y
            have h6 : 1 ≤ x / y := (Nat.le_div_iff_mul_le (by omega)).mpr (by omega)
            have h7 : y * 1 ≤ y * (x / y) := Nat.mul_le_mul (Nat.le_refl _) h6
            omega
    have h8 := ih (n + 2) h2
    rw [show n + 2 * (k + 1) = n + 2 + 2 * k from by omega]
    exact h8
theorem zg_nz {a b : Nat} (h : ¬ (a = 0 ∧ b = 0)) : ∀ n, ¬ ((zg_e a b n).1 = 0 ∧ (zg_e a b n).2 = 0) := by
  intro n
  induction n with
  | zero => exact h
  | succ n ih =>
    simp only [zg_e]
    split
    · exact ih
    · rename_i e; exact fun z => e z.1
theorem zg_dvd {a b : Nat} : ∀ n d, d ∣ (zg_e a b n).1 → d ∣ (zg_e a b n).2 → d ∣ a ∧ d ∣ b := by
  intro n
  induction n with
  | zero => intro d h1 h2; exact ⟨h1, h2⟩
  | succ n ih =>
    intro d h1 h2
    simp only [zg_e] at h1 h2
    split at h1
    · rename_i e; rw [if_pos e] at h2; exact ih d h1 h2
    · rename_i e; rw [if_neg e] at h2
      exact ih d ((Nat.dvd_mod_iff h1).mp h2) h1
/-- Euclid on two counts: it ends, its divisor is not nothing and divides both -/
theorem zg_main {a b : Nat} (ha : a < 2 ^ 40) (hb : b < 2 ^ 40) (h0 : 1 ≤ b) : ∃ g : Nat, 1 ≤ g ∧ g < 2 ^ 40 ∧ g ∣ a ∧ g ∣ b ∧ kl_gcd (lN a) (lN b) 100 = (lN g, 0) := by
  have h1 := zg_half a b 40 0 hb
  have h2 : (zg_e a b 100).2 = 0 := by
    have : ∀ m, (zg_e a b (80 + m)).2 = 0 := by
      intro m
      induction m with
      | zero => exact h1
      | succ m ih => show (zg_e a b (80 + m + 1)).2 = 0; simp only [zg_e]; rw [if_pos ih]; exact ih
    exact this 20
  have h3 := zg_nz (a := a) (b := b) (by omega) 100
  have h4 := zg_bd ha hb 100
  have h5 := zg_dvd (a := a) (b := b) 100 (zg_e a b 100).1 (Nat.dvd_refl _) (by rw [h2]; exact Nat.dvd_zero _)
  refine ⟨(zg_e a b 100).1, by omega, h4.1, h5.1, h5.2, ?_⟩
  rw [zg_l (by omega) (by omega) 100, h2]; rfl
theorem zg_cz {x : Nat} (h : x < 2 ^ 63) : lg_cmp (lN x) 0 = 0 ↔ x = 0 := by
  rw [zt_cmp]; exact fb_lN_inj (b := 0) h (by decide)
theorem zg_abs {x : Nat} (h : x < 2 ^ 63) : kl_abs (lN x) = lN x := by
  unfold kl_abs
  rw [if_pos]
  rw [zt_ge, pf_lI h]; exact Int.natCast_nonneg _
theorem zg_absd {x y : Nat} (hx : x < 2 ^ 62) (hy : y < 2 ^ 62) : ∃ z : Nat, z < 2 ^ 62 ∧ z ≤ max x y ∧ kl_abs (lN x - lN y) = lN z := by
  by_cases h : y ≤ x
  · exact ⟨x - y, by omega, by omega, by rw [lN_sub h, zg_abs (by omega)]⟩
  · refine ⟨y - x, by omega, by omega, ?_⟩
    have e : lN x - lN y = - lN (y - x) := by rw [← lN_sub (by omega), Int64.neg_sub]
    rw [e]
    have h2 : (- lN (y - x)).toInt = - ((y - x : Nat) : Int) := by
      rw [Int64.toInt_neg, pf_lI (by omega)]
      exact fb_bmodL (by omega) (by omega)
    unfold kl_abs
    rw [if_neg, Int64.neg_neg]
    rw [zt_ge, h2]
    show ¬ (0 : Int) ≤ _
    omega
/-- what every question's lemma of sums starts from -/
theorem zg_R {fn qn : Nat} {u d lw uw an : Nat → Int64} {mu md tr : Nat → Int32} (hR : rl fn qn u d lw uw an mu md tr) : ∃ U D : Nat → Nat, ro fn U D u d lw uw mu md ∧ 1 ≤ zs_P D fn ∧ zs_P D fn ≤ 2 ^ 36 ∧ kl_all md fn = lN (zs_P D fn) ∧ kvX0_allBut d fn (-1 : Int32) = lN (zs_P D fn) ∧
    (∀ i j, i < qn → j < qn → zs_S U D tr fn i j ≤ zs_P D fn ∧ kvX0_sumOfBoth lw uw an qn (nI i) (nI j) = lN (zs_S U D tr fn i j) ∧ kl_gbo mu md tr fn i j (2 ^ fn) = lN (zs_S U D tr fn i j)) ∧
    (∀ i, i < qn → kvX1_sum mu md tr fn i = lN (zs_S U D tr fn i i) ∧ kl_gof mu md tr fn i (2 ^ fn) = lN (zs_S U D tr fn i i)) := by
  obtain ⟨hf, hq, h01, hrq, U, D, hr⟩ := hR
  have hp := zt_pw hf
  obtain ⟨r1, r2, r3, r4⟩ := hr
  have b1 := zs_Pb (D := D) fn (fun i hi => ⟨(r1 i hi).2.1, (r1 i hi).2.2.1⟩)
  have b2 : 8 ^ fn ≤ 2 ^ 36 := show 8 ^ fn ≤ 8 ^ 12 from Nat.pow_le_pow_right (by decide) hf
  refine ⟨U, D, ⟨r1, r2, r3, r4⟩, b1.1, by omega, zs_all fn (fun i hi => ⟨(r1 i hi).2.2.1, (r1 i hi).2.2.2.2⟩), zs_but fn hf (fun i hi => (r3 i (by omega)).2), fun i j hi hj => ⟨zs_leP (fun i hi => (r1 i hi).1), zs_sum hf hq hrq r2 r4 hi hj, zs_gbo h01 hf r1 _ (by omega)⟩, fun i hi => zs_msum h01 hf r1 _ (by omega)⟩
theorem zl_gcdN {fn qn : Nat} {u d lw uw an : Nat → Int64} {mu md tr : Nat → Int32} (hR : rl fn qn u d lw uw an mu md tr) (q : Int32) : ¬ kvX1_isQuestion qn q = 0 → (kl_gcd (kl_abs (kvX1_sum mu md tr fn q.toNatClampNeg)) (kvX1_all md fn) 100).2 = 0 ∧ ¬ (kl_gcd (kl_abs (kvX1_sum mu md tr fn q.toNatClampNeg)) (kvX1_all md fn) 100).1 = 0 := by
  intro h
  obtain ⟨i, hi, rfl⟩ := zt_isQ hR.2.1 h
  have hq := hR.2.1
  obtain ⟨U, D, hr, h1, h2, h3, h4, h5, h6⟩ := zg_R hR
  rw [nI_clamp (by omega), (h6 i hi).1]
  unfold kvX1_all
  have h7 := (h5 i i hi hi).1
  rw [h3, zg_abs (by omega)]
  obtain ⟨g, g1, g2, g3, g4, g5⟩ := zg_main (a := zs_S U D tr fn i i) (b := zs_P D fn) (by omega) (by omega) h1
  rw [g5]
  refine ⟨rfl, fun e => ?_⟩
  have := (fb_lN_inj (b := 0) (by omega) (by decide)).mp e
  omega
theorem zl_chance {fn qn : Nat} {u d lw uw an : Nat → Int64} {mu md tr : Nat → Int32} (hR : rl fn qn u d lw uw an mu md tr) (q pt : Int32) : kvX0_chance d lw uw an fn qn q pt = kvX1_chance mu md tr fn qn q pt := by
  unfold kvX0_chance kvX1_chance
  have hQ : kvX1_isQuestion qn q = kvX0_isQuestion qn q := rfl
  rw [hQ]
  by_cases e : kvX0_isQuestion qn q = 0
  · rw [if_pos e, if_pos e]
  rw [if_neg e, if_neg e]
  have hq := hR.2.1
  obtain ⟨i, hi, rfl⟩ := zt_isQ hq e
  obtain ⟨U, D, hr, h1, h2, h3, h4, h5, h6⟩ := zg_R hR
  have h7 := (h5 i i hi hi).1
  obtain ⟨g, g1, g2, g3, g4, g5⟩ := zg_main (a := zs_S U D tr fn i i) (b := zs_P D fn) (by omega) (by omega) h1
  rw [nI_clamp (by omega)]
  unfold kvX0_isPart kvX0_lowestPart kvX1_part kvX1_all
  rw [h4, (h5 i i hi hi).2.1, (h6 i hi).1, h3, zg_abs (by omega), zg_abs (by omega), g5]
  simp only []
  have hg : ¬ lg_cmp (lN g) 0 = 0 := fun z => by have := (zg_cz (x := g) (by omega)).mp z; omega
  simp only [if_neg hg]
  by_cases p0 : pt = 0
  · simp only [if_pos p0]
    rw [if_neg (show ¬ (1 : Int32) = 0 by decide)]
  · by_cases p1 : pt = 1
    · simp only [if_neg p0, if_pos p1]
      rw [if_neg (show ¬ (1 : Int32) = 0 by decide)]
    · simp only [if_neg p0, if_neg p1]
      first | rfl | rw [if_pos rfl] | rw [if_pos trivial]
theorem zl_given_t {fn qn : Nat} {u d lw uw an : Nat → Int64} {mu md tr : Nat → Int32} (hR : rl fn qn u d lw uw an mu md tr) (q r : Int32) : kvX1_given_th mu md tr fn qn q r = kvL_given lw uw an qn q r := by
  unfold kvX1_given_th kvL_given
  have hQ : ∀ q, kvX1_isQuestion qn q = kvX0_isQuestion qn q := fun _ => rfl
  simp only [hQ]
  by_cases e : kvX0_isQuestion qn q = 0
  · rw [if_pos e, if_pos e]
  by_cases e2 : kvX0_isQuestion qn r = 0
  · rw [if_neg e, if_neg e, if_pos e2, if_pos e2]
  rw [if_neg e, if_neg e, if_neg e2, if_neg e2]
  have hq := hR.2.1
  obtain ⟨j, hj, rfl⟩ := zt_isQ hq e2
  obtain ⟨U, D, hr, h1, h2, h3, h4, h5, h6⟩ := zg_R hR
  rw [nI_clamp (by omega), (h6 j hj).2, (h5 j j hj hj).2.1]
  split
  · rfl
  · first | rfl | (rename_i z; rw [if_neg z])
theorem zg_ms {a b : Nat} (hb : 1 ≤ b) (hb2 : b ≤ 2 ^ 36) (ha : a ≤ b) : ∀ n : Nat, n ≤ 6 → kl_ms (lN b) (lN a) n = (lN (10 ^ n * a / b), lN (10 ^ n * a % b)) := by
  intro n
  induction n with
  | zero =>
    intro _
    simp only [kl_ms]
    rw [zg_rem (by omega) (by omega), zg_div (by omega) (by omega), Nat.pow_zero, Nat.one_mul]
  | succ n ih =>
    intro hn
    simp only [kl_ms]
    rw [ih (by omega)]
    simp only []
    have hm := Nat.mod_lt (10 ^ n * a) (show b > 0 by omega)
    have hdm := Nat.div_add_mod (10 ^ n * a) b
    rw [show (10 : Int64) = lN 10 from rfl, lN_mul, lN_mul, zg_rem (by omega) (by omega), zg_div (by omega) (by omega), lN_add]
    have e1 : 10 ^ (n + 1) * a = 10 * (10 ^ n * a % b) + b * (10 * (10 ^ n * a / b)) := by
      rw [Nat.pow_succ, Nat.mul_right_comm, Nat.mul_comm _ 10, show b * (10 * (10 ^ n * a / b)) = 10 * (b * (10 ^ n * a / b)) from by rw [Nat.mul_left_comm]]
      omega
    rw [e1, Nat.add_mul_div_left _ _ (by omega), Nat.add_mul_mod_self_left, Nat.add_comm]
theorem zl_given_v {fn qn : Nat} {u d lw uw an : Nat → Int64} {mu md tr : Nat → Int32} (hR : rl fn qn u d lw uw an mu md tr) (q r : Int32) : kvL_given lw uw an qn q r = 0 → kvX0_given lw uw an qn q r = kvX1_given mu md tr fn qn q r := by
  unfold kvX1_given kvL_given kvX0_given
  have hQ : ∀ q, kvX1_isQuestion qn q = kvX0_isQuestion qn q := fun _ => rfl
  simp only [hQ]
  by_cases e : kvX0_isQuestion qn q = 0
  · intro _; rw [if_pos e, if_pos e]
  by_cases e2 : kvX0_isQuestion qn r = 0
  · intro _; rw [if_neg e, if_neg e, if_pos e2, if_pos e2]
  rw [if_neg e, if_neg e, if_neg e, if_neg e2, if_neg e2, if_neg e2]
  have hq := hR.2.1
  obtain ⟨i, hi, rfl⟩ := zt_isQ hq e
  obtain ⟨j, hj, rfl⟩ := zt_isQ hq e2
  obtain ⟨U, D, hr, h1, h2, h3, h4, h5, h6⟩ := zg_R hR
  rw [nI_clamp (by omega), nI_clamp (by omega), (h6 j hj).2, (h5 j j hj hj).2.1, (h5 i j hi hj).2.1, (h5 i j hi hj).2.2]
  have h7 := (h5 j j hj hj).1
  have h8 := zs_le U D tr fn i j
  intro h
  by_cases z : lg_cmp (lN (zs_S U D tr fn j j)) 0 = 0
  · rw [if_pos z] at h; exact absurd h (by decide)
  · rw [if_neg z, if_neg z]
    have z2 : ¬ zs_S U D tr fn j j = 0 := fun x => z ((zg_cz (by omega)).mpr x)
    unfold kvX1_millionths
    rw [zg_ms (by omega) (by omega) h8 6 (by omega), show (1000000 : Int64) = lN (10 ^ 6) from rfl, lN_mul, zg_div _ (by omega)]
    have : 10 ^ 6 * zs_S U D tr fn i j ≤ 10 ^ 6 * 2 ^ 36 := Nat.mul_le_mul (Nat.le_refl _) (by omega)
    omega
