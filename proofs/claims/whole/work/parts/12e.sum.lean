/-! sums of weights, products of bounds, Euclid -/
theorem zs_split (U D : Nat → Nat) (s m k b : Nat) (hk : k < 2 ^ m) : ∀ i : Nat, wt U D s (m + i) (2 ^ m * b + k) = wt U D s m k * wt U D (s + m) i b := by
  intro i
  induction i with
  | zero =>
    have h := (zw_mod U D s m (2 ^ m * b + k)).1
    rw [Nat.mul_add_mod, Nat.mod_eq_of_lt hk] at h
    rw [Nat.add_zero, ← h]; simp only [wt, Nat.mul_one]
  | succ i ih =>
    have tb : (2 ^ m * b + k).testBit (m + i) = b.testBit i := by rw [Nat.testBit_two_pow_mul_add _ hk, if_neg (by omega), Nat.add_sub_cancel_left]
    have e : wt U D s (m + (i + 1)) (2 ^ m * b + k) = wt U D s (m + i) (2 ^ m * b + k) * (if (2 ^ m * b + k).testBit (m + i) then U (s + (m + i)) else D (s + (m + i)) - U (s + (m + i))) := rfl
    rw [e, ih, tb]
    simp only [wt]
    rw [Nat.mul_assoc, Nat.add_assoc]
theorem zs_mul (c : Nat) (f : Nat → Nat) : ∀ n, c * fb_sm f n = fb_sm (fun k => c * f k) n := by
  intro n
  induction n with
  | zero => rfl
  | succ n ih => rw [fb_sm_succ, fb_sm_succ, Nat.mul_add, ih]
theorem zs_sq (F : Nat → Nat) : ∀ n, fb_sm (fun b => fb_sm (fun k => F (64 * b + k)) 64) n = fb_sm F (64 * n) := by
  intro n
  induction n with
  | zero => rfl
  | succ n ih => rw [fb_sm_succ, ih, Nat.mul_succ, fb_sm_split]
def zs_F (p : Nat → Bool) (U D : Nat → Nat) (i : Nat) (w : Nat) : Nat := if p w = true then wt U D 0 i w else 0
theorem zs_up (p : Nat → Bool) {U D : Nat → Nat} {fn : Nat} (h : ∀ i : Nat, fn ≤ i → U i = 0 ∧ D i = 1) : ∀ m, fb_sm (zs_F p U D (fn + m)) (2 ^ (fn + m)) = fb_sm (zs_F p U D fn) (2 ^ fn) := by
  intro m
  induction m with
  | zero => rfl
  | succ m ih =>
    obtain ⟨h1, h2⟩ := h (fn + m) (by omega)
    rw [← Nat.add_assoc, Nat.pow_succ, Nat.mul_two, fb_sm_split, ← ih]
    have e1 : fb_sm (zs_F p U D (fn + m + 1)) (2 ^ (fn + m)) = fb_sm (zs_F p U D (fn + m)) (2 ^ (fn + m)) := fb_sm_cong (fun k hk => by
      unfold zs_F
      rw [zw_low U D 0 _ k hk, Nat.zero_add, h1, h2]; simp)
    have e2 : fb_sm (fun k => zs_F p U D (fn + m + 1) (2 ^ (fn + m) + k)) (2 ^ (fn + m)) = fb_sm (fun _ => 0) (2 ^ (fn + m)) := fb_sm_cong (fun k hk => by
      unfold zs_F
      rw [Nat.add_comm, zw_high U D 0 _ k hk, Nat.zero_add, h1]; simp)
    rw [e1, e2, fb_sm_const]; rfl
def zs_P (D : Nat → Nat) : Nat → Nat
  | 0 => 1
  | n + 1 => zs_P D n * D n
theorem zs_tot {U D : Nat → Nat} : ∀ n : Nat, (∀ i, i < n → U i ≤ D i) → fb_sm (wt U D 0 n) (2 ^ n) = zs_P D n := by
  intro n
  induction n with
  | zero => intro _; rfl
  | succ n ih =>
    intro h
    have ih := ih (fun i hi => h i (by omega))
    have hn := h n (by omega)
    rw [Nat.pow_succ, Nat.mul_two, fb_sm_split]
    have e1 : fb_sm (wt U D 0 (n + 1)) (2 ^ n) = fb_sm (fun k => (D n - U n) * wt U D 0 n k) (2 ^ n) := fb_sm_cong (fun k hk => by rw [zw_low U D 0 n k hk, Nat.zero_add, Nat.mul_comm])
    have e2 : fb_sm (fun k => wt U D 0 (n + 1) (2 ^ n + k)) (2 ^ n) = fb_sm (fun k => U n * wt U D 0 n k) (2 ^ n) := fb_sm_cong (fun k hk => by
      show wt U D 0 (n + 1) (2 ^ n + k) = U n * wt U D 0 n k
      rw [Nat.add_comm (2 ^ n) k, zw_high U D 0 n k hk, Nat.zero_add, Nat.mul_comm])
    rw [e1, e2, ← zs_mul, ← zs_mul, ih, ← Nat.add_mul, Nat.sub_add_cancel hn, Nat.mul_comm]; rfl
theorem zs_Pb {D : Nat → Nat} : ∀ n : Nat, (∀ i, i < n → 1 ≤ D i ∧ D i ≤ 8) → 1 ≤ zs_P D n ∧ zs_P D n ≤ 8 ^ n := by
  intro n
  induction n with
  | zero => intro _; exact ⟨Nat.le_refl _, Nat.le_refl _⟩
  | succ n ih =>
    intro h
    obtain ⟨h1, h2⟩ := ih (fun i hi => h i (by omega))
    obtain ⟨h3, h4⟩ := h n (by omega)
    refine ⟨Nat.mul_le_mul h1 h3, ?_⟩
    rw [Nat.pow_succ]
    exact Nat.mul_le_mul h2 h4
def zs_p (tr : Nat → Int32) (i j w : Nat) : Bool := decide (tr (4096 * i + w) = 1) && decide (tr (4096 * j + w) = 1)
def zs_S (U D : Nat → Nat) (tr : Nat → Int32) (fn i j : Nat) : Nat := fb_sm (zs_F (zs_p tr i j) U D fn) (2 ^ fn)
theorem zs_low {lw : Nat → Int64} {L : Nat → Nat} (h : ∀ j : Nat, j < 64 → lw j = lN (L j)) (b : Int64) : ∀ n, n ≤ 64 → kl_low lw b n = lN (fb_sm (fun k => if b.toBitVec.getLsbD k = true then L k else 0) n) := by
  intro n
  induction n with
  | zero => intro _; rfl
  | succ n ih =>
    intro hn
    simp only [kl_low]
    rw [zt_bit (by omega), zt_at (by omega) (by decide), ih (by omega), fb_sm_succ, h n (by omega)]
    by_cases e : b.toBitVec.getLsbD n = true
    · simp only [if_pos e]; rw [if_neg (by decide), lN_add]
    · simp only [if_neg e]; rw [if_pos trivial, Nat.add_zero]
theorem zs_sum {fn qn : Nat} {U D : Nat → Nat} {lw uw an : Nat → Int64} {tr : Nat → Int32} {i j : Nat} (hf : fn ≤ 12) (hq : qn ≤ 40) (hrq : rq fn qn an tr)
    (hU : ∀ i : Nat, fn ≤ i → U i = 0 ∧ D i = 1) (hw : ∀ j : Nat, j < 64 → lw j = lN (wt U D 0 6 j) ∧ uw j = lN (wt U D 6 6 j)) (hi : i < qn) (hj : j < qn) :
    kvX0_sumOfBoth lw uw an qn (nI i) (nI j) = lN (zs_S U D tr fn i j) := by
  have g : ∀ n, n ≤ 64 → kl_sum lw uw an qn (nI i) (nI j) n = lN (fb_sm (fun b => fb_sm (fun k => zs_F (zs_p tr i j) U D 12 (64 * b + k)) 64) n) := by
    intro n
    induction n with
    | zero => intro _; rfl
    | succ n ih =>
      intro hn
      have e1 : kl_sum lw uw an qn (nI i) (nI j) (n + 1) = kl_sum lw uw an qn (nI i) (nI j) n + kvX0_at 64 uw (nI n) * kvX0_lowerSum lw (kvX0_blockOf an qn (nI i) (nI n) &&& kvX0_blockOf an qn (nI j) (nI n)) := by
        simp only [kl_sum]
        by_cases z : lg_cmp (kvX0_at 64 uw (nI n)) 0 = 0
        · rw [if_pos z, (zt_cmp _ _).mp z, Int64.zero_mul, Int64.add_zero]
        · rw [if_neg z]
      rw [e1, ih (by omega), fb_sm_succ, ← lN_add]
      congr 1
      rw [zt_at (by omega) (by decide), (hw n (by omega)).2, zt_block hq hi (by omega), zt_block hq hj (by omega)]
      unfold kvX0_lowerSum
      rw [zs_low (fun j hj => (hw j hj).1) _ 64 (Nat.le_refl _), lN_mul, zs_mul]
      congr 1
      refine fb_sm_cong (fun k hk => ?_)
      have hs := zs_split U D 0 6 k n (by omega) 6
      rw [show 0 + 6 = 6 from rfl, show 6 + 6 = 12 from rfl, show 2 ^ 6 * n + k = 64 * n + k from rfl] at hs
      unfold zs_F zs_p
      rw [hs, Int64.toBitVec_and, BitVec.getLsbD_and]
      have h1 := hrq.1 i n k hi (by omega) hk
      have h2 := hrq.1 j n k hj (by omega) hk
      simp only [Bool.and_eq_true, decide_eq_true_iff, h1, h2]
      split
      · rw [Nat.mul_comm]
      · rw [Nat.mul_zero]
  have h := g 64 (Nat.le_refl _)
  unfold kvX0_sumOfBoth zs_S
  rw [h, zs_sq, ← zs_up (zs_p tr i j) hU (12 - fn), show fn + (12 - fn) = 12 from by omega]
theorem zs_tb {w n : Nat} (hw : w < 4096) (hn : n < 12) : ((nI w >>> (nI n &&& 31)) &&& 1) = 1 ↔ w.testBit n = true := by
  have h : nI w >>> (nI n &&& 31) = nI (w / 2 ^ n) := by
    apply b_ext
    intro i hi
    rw [b_sshr n (by omega) _ hi]
    have hb : ∀ m i, m < 4096 → i < 32 → bt (nI m) i = m.testBit i := by
      intro m i hm hi
      show (BitVec.ofNat 32 m).getLsbD i = _
      rw [BitVec.getLsbD_ofNat]; simp [hi]
    have h0 : ∀ i, 12 ≤ i → w.testBit i = false := fun i hi => Nat.testBit_lt_two_pow (Nat.lt_of_lt_of_le hw (show 2 ^ 12 ≤ 2 ^ i from Nat.pow_le_pow_right (by decide) hi))
    have h3 : w / 2 ^ n < 4096 := Nat.lt_of_le_of_lt (Nat.div_le_self _ _) hw
    rw [hb _ _ h3 hi, Nat.testBit_div_two_pow]
    split
    · rename_i hlt; rw [hb _ _ hw hlt, Nat.add_comm]
    · rename_i hlt; rw [hb _ _ hw (by omega), h0 31 (by omega), Nat.add_comm, h0 (n + i) (by omega)]
  have h3 : w / 2 ^ n < 4096 := Nat.lt_of_le_of_lt (Nat.div_le_self _ _) hw
  rw [h, show (1 : Int32) = nI (2 ^ 1 - 1) from rfl, fa_mask, nI_eq (by omega) (by decide), Nat.testBit_eq_decide_div_mod_eq, decide_eq_true_iff]
theorem zs_weigh {fn : Nat} {U D : Nat → Nat} {mu md : Nat → Int32} (hf : fn ≤ 12) (h : ∀ i : Nat, i < fn → U i ≤ D i ∧ 1 ≤ D i ∧ D i ≤ 8 ∧ mu i = nI (U i) ∧ md i = nI (D i)) {w : Nat} (hw : w < 4096) : ∀ n : Nat, n ≤ fn → kl_weigh mu md (nI w) n = lN (wt U D 0 n w) := by
  intro n
  induction n with
  | zero => intro _; rfl
  | succ n ih =>
    intro hn
    obtain ⟨h1, h2, h3, h4, h5⟩ := h n (by omega)
    simp only [kl_weigh, wt]
    rw [ih (by omega), h4, h5, Nat.zero_add]
    by_cases e : w.testBit n = true
    · rw [if_pos ((zs_tb hw (by omega)).mpr e), if_pos e, nI_l (by omega), lN_mul]
    · rw [if_neg (fun z => e ((zs_tb hw (by omega)).mp z)), if_neg e, ← lN_mul]
      congr 1
      have e3 : nI (D n) - nI (U n) = nI (D n - U n) := by
        rw [fa_eq, fb_subI (by rw [nI_toInt (by omega), nI_toInt (by omega)]; omega) (by rw [nI_toInt (by omega), nI_toInt (by omega)]; omega), nI_toInt (by omega), nI_toInt (by omega), nI_toInt (by omega)]; omega
      rw [e3, nI_l (by omega)]
theorem zs_01 {t : Int32} (h : t = 0 ∨ t = 1) : (t = 0 ↔ ¬ t = 1) := by
  rcases h with h | h <;> subst h <;> decide
theorem zs_msum {fn i : Nat} {U D : Nat → Nat} {mu md tr : Nat → Int32} (h01 : oo_01 tr) (hf : fn ≤ 12) (h : ∀ i : Nat, i < fn → U i ≤ D i ∧ 1 ≤ D i ∧ D i ≤ 8 ∧ mu i = nI (U i) ∧ md i = nI (D i)) : ∀ n : Nat, n ≤ 4096 → kl_msum mu md tr fn i n = lN (fb_sm (zs_F (zs_p tr i i) U D fn) n) ∧ kl_gof mu md tr fn i n = lN (fb_sm (zs_F (zs_p tr i i) U D fn) n) := by
  intro n
  induction n with
  | zero => intro _; exact ⟨rfl, rfl⟩
  | succ n ih =>
    intro hn
    obtain ⟨i1, i2⟩ := ih (by omega)
    have hz := zs_01 (h01 (4096 * i + n))
    simp only [kl_msum, kl_gof]
    rw [i1, i2, fb_sm_succ]
    unfold kvX1_weigh
    rw [zs_weigh hf h (by omega) fn (Nat.le_refl _)]
    unfold zs_F zs_p
    simp only [Bool.and_self, decide_eq_true_iff]
    by_cases e : tr (4096 * i + n) = 1
    · rw [if_neg (fun z => hz.mp z e), if_neg (fun z => hz.mp z e), if_pos e]; exact ⟨lN_add _ _, lN_add _ _⟩
    · rw [if_pos (hz.mpr e), if_pos (hz.mpr e), if_neg e, Nat.add_zero]; exact ⟨Int64.add_zero _, rfl⟩
theorem zs_gbo {fn i j : Nat} {U D : Nat → Nat} {mu md tr : Nat → Int32} (h01 : oo_01 tr) (hf : fn ≤ 12) (h : ∀ i : Nat, i < fn → U i ≤ D i ∧ 1 ≤ D i ∧ D i ≤ 8 ∧ mu i = nI (U i) ∧ md i = nI (D i)) : ∀ n : Nat, n ≤ 4096 → kl_gbo mu md tr fn i j n = lN (fb_sm (zs_F (zs_p tr i j) U D fn) n) := by
  intro n
  induction n with
  | zero => intro _; rfl
  | succ n ih =>
    intro hn
    have hz := zs_01 (h01 (4096 * i + n))
    have hy := zs_01 (h01 (4096 * j + n))
    simp only [kl_gbo]
    rw [ih (by omega), fb_sm_succ]
    unfold kvX1_weigh
    rw [zs_weigh hf h (by omega) fn (Nat.le_refl _)]
    unfold zs_F zs_p
    simp only [Bool.and_eq_true, decide_eq_true_iff]
    by_cases e2 : tr (4096 * j + n) = 1
    · rw [if_neg (fun z => hy.mp z e2)]
      by_cases e : tr (4096 * i + n) = 1
      · rw [if_neg (fun z => hz.mp z e), if_pos ⟨e, e2⟩, lN_add]
      · rw [if_pos (hz.mpr e), if_neg (fun z => e z.1), Nat.add_zero]; exact Int64.add_zero _
    · rw [if_pos (hy.mpr e2), if_neg (fun z => e2 z.2), Nat.add_zero]
theorem zs_all {D : Nat → Nat} {md : Nat → Int32} : ∀ n : Nat, (∀ i : Nat, i < n → D i ≤ 8 ∧ md i = nI (D i)) → kl_all md n = lN (zs_P D n) := by
  intro n
  induction n with
  | zero => intro _; rfl
  | succ n ih =>
    intro h
    simp only [kl_all, zs_P]
    obtain ⟨h1, h2⟩ := h n (by omega)
    rw [ih (fun i hi => h i (by omega)), h2, nI_l (by omega), lN_mul]
theorem zs_but {D : Nat → Nat} {d : Nat → Int64} : ∀ n : Nat, n ≤ 12 → (∀ i : Nat, i < n → d i = lN (D i)) → kl_allBut d (-1 : Int32) n = lN (zs_P D n) := by
  intro n
  induction n with
  | zero => intro _ _; rfl
  | succ n ih =>
    intro hn h
    simp only [kl_allBut, zs_P]
    rw [if_neg (fun z => by rw [fa_eq, nI_toInt (by omega), show (-1 : Int32).toInt = -1 from rfl] at z; omega), zt_at (by omega) (by decide), ih (by omega) (fun i hi => h i (by omega)), h n (by omega), lN_mul]
theorem zs_butK {D : Nat → Nat} {d : Nat → Int64} {k : Nat} (hk : k < 12) : ∀ n : Nat, n ≤ 12 → (∀ i : Nat, i < n → d i = lN (D i)) → kl_allBut d (nI k) n = lN (zs_P (zw_u D k 1) n) := by
  intro n
  induction n with
  | zero => intro _ _; rfl
  | succ n ih =>
    intro hn h
    simp only [kl_allBut, zs_P]
    rw [ih (by omega) (fun i hi => h i (by omega))]
    unfold zw_u
    by_cases e : n = k
    · subst e
      rw [if_pos rfl, if_pos rfl, Nat.mul_one]
    · rw [if_neg (fun z => e ((nI_eq (by omega) (by omega)).mp z)), if_neg e, zt_at (by omega) (by decide), h n (by omega), lN_mul]
theorem zs_le (U D : Nat → Nat) (tr : Nat → Int32) (fn i j : Nat) : zs_S U D tr fn i j ≤ zs_S U D tr fn j j := by
  refine fb_sm_le (fun k _ => ?_)
  unfold zs_F zs_p
  by_cases e : tr (4096 * j + k) = 1
  · simp only [e, decide_true, Bool.and_true]
    split
    · exact Nat.le_refl _
    · exact Nat.zero_le _
  · simp [e]
theorem zs_leP {U D : Nat → Nat} {tr : Nat → Int32} {fn i j : Nat} (h : ∀ i, i < fn → U i ≤ D i) : zs_S U D tr fn i j ≤ zs_P D fn := by
  rw [← zs_tot fn h]
  refine fb_sm_le (fun k _ => ?_)
  unfold zs_F
  split
  · exact Nat.le_refl _
  · exact Nat.zero_le _
