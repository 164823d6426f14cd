/-! the count of a long's bits; worlds -/
def zc_M (c : Nat) : Nat → Nat
  | 0 => 0
  | i + 1 => 256 * zc_M c i + c
theorem zc_and {a a2 b b2 : Nat} (h : b < 256) (h2 : b2 < 256) : (256 * a + b) &&& (256 * a2 + b2) = 256 * (a &&& a2) + (b &&& b2) := by
  have h3 : b &&& b2 < 2 ^ 8 := Nat.lt_of_le_of_lt Nat.and_le_left h
  apply Nat.eq_of_testBit_eq
  intro i
  rw [Nat.testBit_and, show 256 = 2 ^ 8 from rfl, Nat.testBit_two_pow_mul_add _ h, Nat.testBit_two_pow_mul_add _ h2, Nat.testBit_two_pow_mul_add _ h3]
  split
  · rw [Nat.testBit_and]
  · rw [Nat.testBit_and]
def zc_1 (i x : Nat) : Nat := x - (x / 2 &&& zc_M 85 i)
def zc_2 (i x : Nat) : Nat := (x &&& zc_M 51 i) + (x / 4 &&& zc_M 51 i)
def zc_3 (i x : Nat) : Nat := (x + x / 16) &&& zc_M 15 i
def zc_t (b : Nat) : Nat := ((b - (b / 2 &&& 85)) &&& 51) + ((b - (b / 2 &&& 85)) / 4 &&& 51)
def zc_g (b : Nat) : Nat := (zc_t b + zc_t b / 16) &&& 15
theorem zc_d1 : ∀ (x : Fin 2) (b : Fin 256), (128 * x.val + b.val / 2) &&& 85 = b.val / 2 &&& 85 := by decide +kernel
theorem zc_d2 : ∀ (x : Fin 4) (b : Fin 256), (64 * x.val + b.val / 4) &&& 51 = b.val / 4 &&& 51 := by decide +kernel
theorem zc_d3 : ∀ b : Fin 256, zc_t b.val ≤ 68 ∧ zc_t b.val % 16 ≤ 4 ∧ zc_g b.val = fb_ct (fun k => b.val.testBit k) 8 ∧ zc_g b.val ≤ 8 := by decide +kernel
theorem zc_s1 {i a b : Nat} (hb : b < 256) : zc_1 (i + 1) (256 * a + b) = 256 * zc_1 i a + (b - (b / 2 &&& 85)) := by
  unfold zc_1
  have e1 : (256 * a + b) / 2 = 256 * (a / 2) + (128 * (a % 2) + b / 2) := by omega
  have e2 := zc_d1 ⟨a % 2, by omega⟩ ⟨b, hb⟩
  simp only [] at e2
  have h1 : a / 2 &&& zc_M 85 i ≤ a / 2 := Nat.and_le_left
  have h2 : b / 2 &&& 85 ≤ b / 2 := Nat.and_le_left
  show 256 * a + b - ((256 * a + b) / 2 &&& (256 * zc_M 85 i + 85)) = _
  rw [e1, zc_and (by omega) (by decide), e2]
  omega
theorem zc_s2 {i a b : Nat} (hb : b < 256) : zc_2 (i + 1) (256 * a + b) = 256 * zc_2 i a + ((b &&& 51) + (b / 4 &&& 51)) := by
  unfold zc_2
  have e1 : (256 * a + b) / 4 = 256 * (a / 4) + (64 * (a % 4) + b / 4) := by omega
  have e2 := zc_d2 ⟨a % 4, by omega⟩ ⟨b, hb⟩
  simp only [] at e2
  show ((256 * a + b) &&& (256 * zc_M 51 i + 51)) + ((256 * a + b) / 4 &&& (256 * zc_M 51 i + 51)) = _
  rw [e1, zc_and hb (by decide), zc_and (by omega) (by decide), e2]
  omega
theorem zc_s3 {i a b : Nat} (hb : b ≤ 68) (ha : a % 16 ≤ 4) : zc_3 (i + 1) (256 * a + b) = 256 * zc_3 i a + ((b + b / 16) &&& 15) := by
  unfold zc_3
  have e1 : 256 * a + b + (256 * a + b) / 16 = 256 * (a + a / 16) + (b + 16 * (a % 16) + b / 16) := by omega
  show (256 * a + b + (256 * a + b) / 16) &&& (256 * zc_M 15 i + 15) = _
  rw [e1, zc_and (by omega) (by decide), show 15 = 2 ^ 4 - 1 from rfl, Nat.and_two_pow_sub_one_eq_mod, Nat.and_two_pow_sub_one_eq_mod]
  omega
theorem zc_21 : ∀ (i n : Nat), n < 256 ^ i → zc_2 i (zc_1 i n) % 16 ≤ 4 := by
  intro i n h
  cases i with
  | zero =>
    rw [Nat.pow_zero] at h
    have : n = 0 := by omega
    subst this; decide
  | succ i =>
    have e : n = 256 * (n / 256) + n % 256 := by omega
    have hb : n % 256 < 256 := by omega
    have h2 : n % 256 - (n % 256 / 2 &&& 85) < 256 := by omega
    rw [e, zc_s1 hb, zc_s2 h2]
    have h3 := (zc_d3 ⟨n % 256, hb⟩).2.1
    have h4 : zc_t (n % 256) % 16 ≤ 4 := h3
    unfold zc_t at h4
    omega
def zc_G : Nat → Nat → Nat
  | 0, _ => 0
  | i + 1, n => 256 * zc_G i (n / 256) + zc_g (n % 256)
theorem zc_main : ∀ (i n : Nat), n < 256 ^ i → zc_3 i (zc_2 i (zc_1 i n)) = zc_G i n := by
  intro i
  induction i with
  | zero =>
    intro n h
    rw [Nat.pow_zero] at h
    have : n = 0 := by omega
    subst this; decide
  | succ i ih =>
    intro n h
    rw [Nat.pow_succ] at h
    have hn : n / 256 < 256 ^ i := by omega
    have e : n = 256 * (n / 256) + n % 256 := by omega
    have hb : n % 256 < 256 := by omega
    have h2 : n % 256 - (n % 256 / 2 &&& 85) < 256 := by omega
    have h3 := (zc_d3 ⟨n % 256, hb⟩).1
    have h4 : ((n % 256 - (n % 256 / 2 &&& 85)) &&& 51) + ((n % 256 - (n % 256 / 2 &&& 85)) / 4 &&& 51) ≤ 68 := h3
    have e5 : zc_3 (i + 1) (zc_2 (i + 1) (zc_1 (i + 1) (256 * (n / 256) + n % 256))) = zc_G (i + 1) n := by
      rw [zc_s1 hb, zc_s2 h2, zc_s3 h4 (zc_21 i _ hn), ih _ hn]
      rfl
    rw [← e] at e5
    exact e5
def zc_C : Nat → Nat → Nat
  | 0, _ => 0
  | i + 1, n => zc_C i (n / 256) + zc_g (n % 256)
theorem zc_ct : ∀ (i n : Nat), zc_C i n = fb_ct (fun k => n.testBit k) (8 * i) := by
  intro i
  induction i with
  | zero => intro n; rfl
  | succ i ih =>
    intro n
    have h3 : zc_g (n % 256) = fb_ct (fun k => (n % 256).testBit k) 8 := (zc_d3 ⟨n % 256, by omega⟩).2.2.1
    simp only [zc_C]
    rw [ih, h3, show 8 * (i + 1) = 8 + 8 * i from by omega, fb_ct_split, Nat.add_comm]
    congr 1
    · refine fb_ct_cong (fun k hk => ?_)
      rw [show 256 = 2 ^ 8 from rfl, Nat.testBit_mod_two_pow]; simp [hk]
    · refine fb_ct_cong (fun k hk => ?_)
      rw [show 256 = 2 ^ 8 from rfl, Nat.testBit_div_two_pow, Nat.add_comm]
theorem zc_t1 (a g : Nat) (h : g < 256) : (256 * a + g) / 256 = a := by omega
theorem zc_t2 (a g : Nat) (h : g < 65536) : (65536 * a + g) / 65536 = a := by omega
theorem zc_t3 (a g : Nat) (h : g < 4294967296) : (4294967296 * a + g) / 4294967296 = a := by omega
theorem zc_t4 (a g : Nat) (h : g < 128) : (128 * a + g) % 128 = g := by omega
theorem zc_i2 (g0 g1 g2 g3 g4 g5 g6 g7 : Nat) : (256 * (256 * (256 * (256 * (256 * (256 * (256 * (256 * 0 + g7) + g6) + g5) + g4) + g3) + g2) + g1) + g0) + (256 * (256 * (256 * (256 * (256 * (256 * (256 * 0 + g7) + g6) + g5) + g4) + g3) + g2) + g1) = 65536 * (65536 * (65536 * (256 * g7 + (g6 + g7)) + (256 * (g5 + g6) + (g4 + g5))) + (256 * (g3 + g4) + (g2 + g3))) + (256 * (g1 + g2) + (g0 + g1)) := by omega
theorem zc_i3 (g0 g1 g2 g3 g4 g5 g6 g7 : Nat) : 65536 * (65536 * (65536 * (256 * g7 + (g6 + g7)) + (256 * (g5 + g6) + (g4 + g5))) + (256 * (g3 + g4) + (g2 + g3))) + (256 * (g1 + g2) + (g0 + g1)) + (65536 * (65536 * (256 * g7 + (g6 + g7)) + (256 * (g5 + g6) + (g4 + g5))) + (256 * (g3 + g4) + (g2 + g3))) = 4294967296 * ((65536 * (256 * g7 + (g6 + g7)) + (256 * (g5 + g6) + (g4 + g5))) + (256 * g7 + (g6 + g7))) + ((256 * (g1 + g2) + (g0 + g1)) + 65536 * (256 * (g3 + g4) + (g2 + g3)) + (256 * (g3 + g4) + (g2 + g3)) + 65536 * (256 * (g5 + g6) + (g4 + g5))) := by omega
theorem zc_i4 (g0 g1 g2 g3 g4 g5 g6 g7 : Nat) : 4294967296 * ((65536 * (256 * g7 + (g6 + g7)) + (256 * (g5 + g6) + (g4 + g5))) + (256 * g7 + (g6 + g7))) + ((256 * (g1 + g2) + (g0 + g1)) + 65536 * (256 * (g3 + g4) + (g2 + g3)) + (256 * (g3 + g4) + (g2 + g3)) + 65536 * (256 * (g5 + g6) + (g4 + g5))) + ((65536 * (256 * g7 + (g6 + g7)) + (256 * (g5 + g6) + (g4 + g5))) + (256 * g7 + (g6 + g7))) = 128 * (2 * (16777216 * ((65536 * (256 * g7 + (g6 + g7)) + (256 * (g5 + g6) + (g4 + g5))) + (256 * g7 + (g6 + g7))) + (g1 + g2) + 256 * (256 * (g3 + g4) + (g2 + g3)) + (g3 + g4) + 256 * (256 * (g5 + g6) + (g4 + g5)) + (g5 + g6) + 256 * (256 * g7 + (g6 + g7)) + g7)) + (0 + g7 + g6 + g5 + g4 + g3 + g2 + g1 + g0) := by omega
theorem zc_b2 (g0 g1 g2 g3 g4 g5 g6 g7 : Nat) (h0 : g0 ≤ 8) (h1 : g1 ≤ 8) (h2 : g2 ≤ 8) (h3 : g3 ≤ 8) (h4 : g4 ≤ 8) (h5 : g5 ≤ 8) (h6 : g6 ≤ 8) (h7 : g7 ≤ 8) : (256 * (g1 + g2) + (g0 + g1)) < 65536 := by omega
theorem zc_b3 (g0 g1 g2 g3 g4 g5 g6 g7 : Nat) (h0 : g0 ≤ 8) (h1 : g1 ≤ 8) (h2 : g2 ≤ 8) (h3 : g3 ≤ 8) (h4 : g4 ≤ 8) (h5 : g5 ≤ 8) (h6 : g6 ≤ 8) (h7 : g7 ≤ 8) : ((256 * (g1 + g2) + (g0 + g1)) + 65536 * (256 * (g3 + g4) + (g2 + g3)) + (256 * (g3 + g4) + (g2 + g3)) + 65536 * (256 * (g5 + g6) + (g4 + g5))) < 4294967296 := by omega
theorem zc_b4 (g0 g1 g2 g3 g4 g5 g6 g7 : Nat) (h0 : g0 ≤ 8) (h1 : g1 ≤ 8) (h2 : g2 ≤ 8) (h3 : g3 ≤ 8) (h4 : g4 ≤ 8) (h5 : g5 ≤ 8) (h6 : g6 ≤ 8) (h7 : g7 ≤ 8) : (0 + g7 + g6 + g5 + g4 + g3 + g2 + g1 + g0) < 128 := by omega
theorem zc_b5 (g0 g1 g2 g3 g4 g5 g6 g7 : Nat) (h0 : g0 ≤ 8) (h1 : g1 ≤ 8) (h2 : g2 ≤ 8) (h3 : g3 ≤ 8) (h4 : g4 ≤ 8) (h5 : g5 ≤ 8) (h6 : g6 ≤ 8) (h7 : g7 ≤ 8) : 256 * (256 * (256 * (256 * (256 * (256 * (256 * (256 * 0 + g7) + g6) + g5) + g4) + g3) + g2) + g1) + g0 < 2 ^ 60 := by omega
theorem zc_lin (g0 g1 g2 g3 g4 g5 g6 g7 : Nat) (h0 : g0 ≤ 8) (h1 : g1 ≤ 8) (h2 : g2 ≤ 8) (h3 : g3 ≤ 8) (h4 : g4 ≤ 8) (h5 : g5 ≤ 8) (h6 : g6 ≤ 8) (h7 : g7 ≤ 8) : ((256 * (256 * (256 * (256 * (256 * (256 * (256 * (256 * 0 + g7) + g6) + g5) + g4) + g3) + g2) + g1) + g0) + (256 * (256 * (256 * (256 * (256 * (256 * (256 * (256 * 0 + g7) + g6) + g5) + g4) + g3) + g2) + g1) + g0) / 256 + ((256 * (256 * (256 * (256 * (256 * (256 * (256 * (256 * 0 + g7) + g6) + g5) + g4) + g3) + g2) + g1) + g0) + (256 * (256 * (256 * (256 * (256 * (256 * (256 * (256 * 0 + g7) + g6) + g5) + g4) + g3) + g2) + g1) + g0) / 256) / 65536 + ((256 * (256 * (256 * (256 * (256 * (256 * (256 * (256 * 0 + g7) + g6) + g5) + g4) + g3) + g2) + g1) + g0) + (256 * (256 * (256 * (256 * (256 * (256 * (256 * (256 * 0 + g7) + g6) + g5) + g4) + g3) + g2) + g1) + g0) / 256 + ((256 * (256 * (256 * (256 * (256 * (256 * (256 * (256 * 0 + g7) + g6) + g5) + g4) + g3) + g2) + g1) + g0) + (256 * (256 * (256 * (256 * (256 * (256 * (256 * (256 * 0 + g7) + g6) + g5) + g4) + g3) + g2) + g1) + g0) / 256) / 65536) / 4294967296) % 128 = (0 + g7 + g6 + g5 + g4 + g3 + g2 + g1 + g0) := by
  rw [zc_t1 _ g0 (by omega), zc_i2, zc_t2 _ _ (zc_b2 g0 g1 g2 g3 g4 g5 g6 g7 h0 h1 h2 h3 h4 h5 h6 h7), zc_i3, zc_t3 _ _ (zc_b3 g0 g1 g2 g3 g4 g5 g6 g7 h0 h1 h2 h3 h4 h5 h6 h7), zc_i4, zc_t4 _ _ (zc_b4 g0 g1 g2 g3 g4 g5 g6 g7 h0 h1 h2 h3 h4 h5 h6 h7)]
theorem zc_fin {n : Nat} (h : n < 2 ^ 64) : ((zc_G 8 n + zc_G 8 n / 256) + (zc_G 8 n + zc_G 8 n / 256) / 65536 + ((zc_G 8 n + zc_G 8 n / 256) + (zc_G 8 n + zc_G 8 n / 256) / 65536) / 4294967296) % 128 = zc_C 8 n ∧ zc_G 8 n < 2 ^ 60 := by
  have hg : ∀ m, zc_g (m % 256) ≤ 8 := fun m => (zc_d3 ⟨m % 256, by omega⟩).2.2.2
  simp only [zc_G, zc_C]
  have h0 := hg n
  have h1 := hg (n / 256)
  have h2 := hg (n / 256 / 256)
  have h3 := hg (n / 256 / 256 / 256)
  have h4 := hg (n / 256 / 256 / 256 / 256)
  have h5 := hg (n / 256 / 256 / 256 / 256 / 256)
  have h6 := hg (n / 256 / 256 / 256 / 256 / 256 / 256)
  have h7 := hg (n / 256 / 256 / 256 / 256 / 256 / 256 / 256)
  generalize zc_g (n % 256) = g0 at *
  generalize zc_g (n / 256 % 256) = g1 at *
  generalize zc_g (n / 256 / 256 % 256) = g2 at *
  generalize zc_g (n / 256 / 256 / 256 % 256) = g3 at *
  generalize zc_g (n / 256 / 256 / 256 / 256 % 256) = g4 at *
  generalize zc_g (n / 256 / 256 / 256 / 256 / 256 % 256) = g5 at *
  generalize zc_g (n / 256 / 256 / 256 / 256 / 256 / 256 % 256) = g6 at *
  generalize zc_g (n / 256 / 256 / 256 / 256 / 256 / 256 / 256 % 256) = g7 at *
  clear h hg
  exact ⟨zc_lin g0 g1 g2 g3 g4 g5 g6 g7 h0 h1 h2 h3 h4 h5 h6 h7, zc_b5 g0 g1 g2 g3 g4 g5 g6 g7 h0 h1 h2 h3 h4 h5 h6 h7⟩
theorem zc_cnt {n : Nat} (h : n < 2 ^ 64) : kvJ13_bitCount_95d88 (lN n) = nI (fb_ct (fun k => n.testBit k) 64) := by
  have a1 : n / 2 &&& zc_M 85 8 ≤ n := Nat.le_trans Nat.and_le_left (Nat.div_le_self _ _)
  have c1 : kB_1 (lN n) = lN (zc_1 8 n) := by
    unfold kB_1 zc_1
    have := wb_shr h (show 1 < 64 by decide)
    rw [show (1 : Int32) = nI 1 from rfl, this, show (6148914691236517205 : Int64) = lN (zc_M 85 8) from by decide +kernel, fb_andL, Nat.pow_one, lN_sub a1]
  have l1 : zc_1 8 n < 2 ^ 64 := by unfold zc_1; omega
  have c2 : kB_2 (lN (zc_1 8 n)) = lN (zc_2 8 (zc_1 8 n)) := by
    unfold kB_2 zc_2
    have := wb_shr l1 (show 2 < 64 by decide)
    rw [show (2 : Int32) = nI 2 from rfl, this, show (3689348814741910323 : Int64) = lN (zc_M 51 8) from by decide +kernel, fb_andL, fb_andL, lN_add]
  have l2 : zc_2 8 (zc_1 8 n) < 2 ^ 64 := by
    unfold zc_2
    have x1 : zc_1 8 n &&& zc_M 51 8 ≤ zc_M 51 8 := Nat.and_le_right
    have x2 : zc_1 8 n / 4 &&& zc_M 51 8 ≤ zc_M 51 8 := Nat.and_le_right
    have x3 : zc_M 51 8 = 3689348814741910323 := by decide +kernel
    omega
  have c3 : kB_3 (lN (zc_2 8 (zc_1 8 n))) = lN (zc_G 8 n) := by
    rw [← zc_main 8 n (by omega)]
    unfold kB_3 zc_3
    have := wb_shr l2 (show 4 < 64 by decide)
    rw [show (4 : Int32) = nI 4 from rfl, this, show (1085102592571150095 : Int64) = lN (zc_M 15 8) from by decide +kernel, lN_add, fb_andL]
  obtain ⟨f1, f2⟩ := zc_fin h
  generalize hy : zc_G 8 n = y at *
  have c4 : kB_4 (lN y) = lN (y + y / 256) := by
    unfold kB_4
    rw [wb_shr (by omega) (show 8 < 64 by decide), lN_add]
  have c5 : kB_5 (lN (y + y / 256)) = lN ((y + y / 256) + (y + y / 256) / 65536) := by
    unfold kB_5
    rw [wb_shr (by omega) (show 16 < 64 by decide), lN_add]
  have c6 : kB_6 (lN ((y + y / 256) + (y + y / 256) / 65536)) = lN ((y + y / 256) + (y + y / 256) / 65536 + ((y + y / 256) + (y + y / 256) / 65536) / 4294967296) := by
    unfold kB_6
    rw [wb_shr (by omega) (show 32 < 64 by decide), lN_add]
  unfold kvJ13_bitCount_95d88
  rw [c1, c2, c3, c4, c5, c6, lN_i, show nI 127 = nI (2 ^ 7 - 1) from rfl, fa_mask, ← zc_ct 8 n, ← f1]
theorem zl_worlds {fn qn : Nat} {u d lw uw an : Nat → Int64} {mu md tr : Nat → Int32} (hR : rl fn qn u d lw uw an mu md tr) (q : Int32) : kvX0_worlds an fn qn q = kvX1_worlds tr fn qn q := by
  obtain ⟨hf, hq, h01, hrq, -⟩ := hR
  have hp := zt_pw hf
  unfold kvX0_worlds kvX1_worlds
  have hQ : kvX1_isQuestion qn q = kvX0_isQuestion qn q := rfl
  rw [hQ]
  by_cases e1 : kvX0_isQuestion qn q = 0
  · rw [if_pos e1, if_pos e1]
  rw [if_neg e1, if_neg e1]
  obtain ⟨i, hi, rfl⟩ := zt_isQ hq e1
  rw [nI_clamp (show i < 2 ^ 31 by omega)]
  have k1 : ∀ n, n ≤ 64 → kl_wc an qn (nI i) n = nI (fb_ct (fun w => decide (tr (4096 * i + w) = 1)) (64 * n)) := by
    intro n
    induction n with
    | zero => intro _; rfl
    | succ n ih =>
      intro hn
      simp only [kl_wc]
      obtain ⟨x, hx, hx2⟩ := wb_of (an (i * 64 + n))
      rw [ih (by omega), zt_block hq hi (by omega), hx2, zc_cnt hx, nI_add, Nat.mul_succ, fb_ct_split]
      congr 2
      refine fb_ct_cong (fun k hk => ?_)
      have h := hrq.1 i n k hi (by omega) hk
      rw [hx2, wb_tb, BitVec.getLsbD_ofNat] at h
      simp only [hk, decide_true, Bool.true_and] at h
      exact Bool.eq_iff_iff.mpr (h.trans decide_eq_true_iff.symm)
  have k2 : ∀ n, n ≤ 4096 → kl_mwc tr i n = nI (fb_ct (fun w => decide (tr (4096 * i + w) = 1)) n) := by
    intro n
    induction n with
    | zero => intro _; rfl
    | succ n ih =>
      intro hn
      simp only [kl_mwc]
      have hz := zs_01 (h01 (4096 * i + n))
      rw [ih (by omega), fb_ct_succ]
      by_cases e : tr (4096 * i + n) = 1
      · rw [if_neg (fun z => hz.mp z e), nI_1]; simp [e]
      · rw [if_pos (hz.mpr e), Int32.add_zero]; simp [e]
  have k3 : ∀ m, fn + m ≤ 12 → fb_ct (fun w => decide (tr (4096 * i + w) = 1)) (2 ^ (fn + m)) = 2 ^ m * fb_ct (fun w => decide (tr (4096 * i + w) = 1)) (2 ^ fn) := by
    intro m
    induction m with
    | zero => intro _; rw [Nat.pow_zero, Nat.one_mul, Nat.add_zero]
    | succ m ih =>
      intro hm
      have ih := ih (by omega)
      have hpp : 2 ^ (fn + m) ≤ 2 ^ 11 := Nat.pow_le_pow_right (by decide) (by omega)
      rw [← Nat.add_assoc, Nat.pow_succ, Nat.mul_two, fb_ct_split]
      have e2 : fb_ct (fun k => decide (tr (4096 * i + (2 ^ (fn + m) + k)) = 1)) (2 ^ (fn + m)) = fb_ct (fun w => decide (tr (4096 * i + w) = 1)) (2 ^ (fn + m)) := fb_ct_cong (fun k hk => by
        rw [hrq.2 i (2 ^ (fn + m) + k) hi (by omega), hrq.2 i k hi (by omega), Nat.pow_add, Nat.mul_add_mod])
      rw [e2, ih, Nat.pow_succ]
      rw [Nat.mul_two, Nat.add_mul]
  rw [k1 64 (Nat.le_refl _), k2 _ hp.2]
  have e3 : nI 12 - nI fn = nI (12 - fn) := by
    rw [fa_eq, fb_subI (by rw [nI_toInt (by omega), nI_toInt (by omega)]; omega) (by rw [nI_toInt (by omega), nI_toInt (by omega)]; omega), nI_toInt (by omega), nI_toInt (by omega), nI_toInt (by omega)]; omega
  have k4 := k3 (12 - fn) (by omega)
  rw [show fn + (12 - fn) = 12 from by omega, show 2 ^ 12 = 64 * 64 from rfl] at k4
  have k5 := fb_ct_le (fun w => decide (tr (4096 * i + w) = 1)) (64 * 64)
  have e4 : ∀ c n, c < 8192 → n < 13 → nI c >>> (nI n &&& 31) = nI (c / 2 ^ n) := by
    intro c n hc hn
    apply b_ext
    intro j hj
    rw [b_sshr n (by omega) _ hj]
    have hb : ∀ m j, m < 8192 → j < 32 → bt (nI m) j = m.testBit j := by
      intro m j hm hj
      show (BitVec.ofNat 32 m).getLsbD j = _
      rw [BitVec.getLsbD_ofNat]; simp [hj]
    have h0 : ∀ j, 13 ≤ j → c.testBit j = false := fun j hj => Nat.testBit_lt_two_pow (Nat.lt_of_lt_of_le hc (show 2 ^ 13 ≤ 2 ^ j from Nat.pow_le_pow_right (by decide) hj))
    have h3 : c / 2 ^ n < 8192 := Nat.lt_of_le_of_lt (Nat.div_le_self _ _) hc
    rw [hb _ _ h3 hj, Nat.testBit_div_two_pow]
    split
    · rename_i hlt; rw [hb _ _ hc hlt, Nat.add_comm]
    · rename_i hlt; rw [hb _ _ hc (by omega), h0 31 (by omega), Nat.add_comm, h0 (n + j) (by omega)]
  rw [e3, e4 _ _ (by omega) (by omega), k4, Nat.mul_div_cancel_left _ (Nat.two_pow_pos _)]
