/-! holds, same, likeliest, weight, sample -/
theorem zh_true {fn qn : Nat} {an : Nat → Int64} {tr : Nat → Int32} {i w : Nat} (hq : qn ≤ 40) (hrq : rq fn qn an tr) (hi : i < qn) (hw : w < 4096) : kvX0_isTrue an qn (nI i) (nI w) = if tr (4096 * i + w) = 1 then 1 else 0 := by
  unfold kvX0_isTrue
  rw [pk_rem (by omega) (by decide) (by decide), pk_div (by omega) (by decide) (by decide), zt_block hq hi (by omega), zt_bit (by omega)]
  have h := hrq.1 i (w / 64) (w % 64) hi (by omega) (by omega)
  rw [show 64 * (w / 64) + w % 64 = w from by omega] at h
  by_cases e : tr (4096 * i + w) = 1
  · rw [if_pos e, if_pos (h.mpr e)]
  · rw [if_neg e, if_neg (fun z => e (h.mp z))]
theorem zh_true0 {fn qn : Nat} {an : Nat → Int64} {tr : Nat → Int32} {i w : Nat} (hq : qn ≤ 40) (h01 : oo_01 tr) (hrq : rq fn qn an tr) (hi : i < qn) (hw : w < 4096) : kvX0_isTrue an qn (nI i) (nI w) = 0 ↔ tr (4096 * i + w) = 0 := by
  rw [zh_true hq hrq hi hw]
  rcases h01 (4096 * i + w) with h | h <;> rw [h] <;> decide
theorem zl_holds {fn qn : Nat} {u d lw uw an : Nat → Int64} {mu md tr : Nat → Int32} (hR : rl fn qn u d lw uw an mu md tr) (q w : Int32) : kvX0_holds an fn qn q w = kvX1_holds tr fn qn q w := by
  obtain ⟨hf, hq, h01, hrq, -⟩ := hR
  have hp := zt_pw hf
  unfold kvX0_holds kvX1_holds
  have hQ : kvX1_isQuestion qn q = kvX0_isQuestion qn q := rfl
  rw [hQ]
  by_cases e1 : kvX0_isQuestion qn q = 0
  · rw [if_pos e1, if_pos e1]
  rw [if_neg e1, if_neg e1]
  obtain ⟨i, hi, rfl⟩ := zt_isQ hq e1
  obtain ⟨n, hn, rfl⟩ := wb_of32 w
  rw [show nI (2 ^ fn) - 1 = nI (2 ^ fn - 1) from by
    rw [show 2 ^ fn = (2 ^ fn - 1) + 1 from by omega, nI_pred]; rfl, zt_all hf, zt_masked]
  have hm : n % 2 ^ fn < 4096 := Nat.lt_of_lt_of_le (Nat.mod_lt _ (by omega)) hp.2
  rw [nI_clamp (show i < 2 ^ 31 by omega), nI_clamp (show n % 2 ^ fn < 2 ^ 31 by omega)]
  have h := zh_true0 hq h01 hrq hi hm
  by_cases e : tr (4096 * i + n % 2 ^ fn) = 0
  · rw [if_pos e, if_pos (h.mpr e)]
  · rw [if_neg e, if_neg (fun z => e (h.mp z))]
theorem zh_blk {fn qn : Nat} {an : Nat → Int64} {tr : Nat → Int32} {i j b c : Nat} (h01 : oo_01 tr) (hrq : rq fn qn an tr) (hi : i < qn) (hj : j < qn) (hb : b < 64) (hc : c < 64) : an (i * 64 + b) = an (j * 64 + c) ↔ ∀ k, k < 64 → tr (4096 * i + (64 * b + k)) = tr (4096 * j + (64 * c + k)) := by
  constructor
  · intro h k hk
    have h1 := hrq.1 i b k hi hb hk
    have h2 := hrq.1 j c k hj hc hk
    rw [h, h2] at h1
    rcases h01 (4096 * i + (64 * b + k)) with z1 | z1 <;> rcases h01 (4096 * j + (64 * c + k)) with z2 | z2 <;> rw [z1, z2] <;> rw [z1, z2] at h1 <;> first | rfl | (exfalso; revert h1; decide)
  · intro h
    apply wb_inj
    apply BitVec.eq_of_getLsbD_eq
    intro k hk
    have h1 := hrq.1 i b k hi hb hk
    have h2 := hrq.1 j c k hj hc hk
    rw [h k hk, ← h2] at h1
    exact Bool.eq_iff_iff.mpr h1
theorem zl_same {fn qn : Nat} {u d lw uw an : Nat → Int64} {mu md tr : Nat → Int32} (hR : rl fn qn u d lw uw an mu md tr) (q r : Int32) : kvX0_same an qn q r = kvX1_same tr fn qn q r := by
  obtain ⟨hf, hq, h01, hrq, -⟩ := hR
  have hp := zt_pw hf
  unfold kvX0_same kvX1_same
  have hQ : ∀ q, kvX1_isQuestion qn q = kvX0_isQuestion qn q := fun _ => rfl
  simp only [hQ]
  by_cases e1 : kvX0_isQuestion qn q = 0
  · rw [if_pos e1, if_pos e1]
  by_cases e2 : kvX0_isQuestion qn r = 0
  · rw [if_neg e1, if_neg e1, if_pos e2, if_pos e2]
  rw [if_neg e1, if_neg e1, if_neg e2, if_neg e2]
  obtain ⟨i, hi, rfl⟩ := zt_isQ hq e1
  obtain ⟨j, hj, rfl⟩ := zt_isQ hq e2
  rw [nI_clamp (show i < 2 ^ 31 by omega), nI_clamp (show j < 2 ^ 31 by omega)]
  have key : (∀ k : Nat, k < 64 → lg_cmp (kvX0_blockOf an qn (nI i) (nI k)) (kvX0_blockOf an qn (nI j) (nI k)) = 0) ↔ (∀ k : Nat, k < 2 ^ fn → tr (4096 * i + k) = tr (4096 * j + k)) := by
    constructor
    · intro h k hk
      have h2 := h (k / 64) (by omega)
      rw [zt_cmp, zt_block hq hi (by omega), zt_block hq hj (by omega)] at h2
      have h3 := (zh_blk h01 hrq hi hj (by omega) (by omega)).mp h2 (k % 64) (by omega)
      rw [show 64 * (k / 64) + k % 64 = k from by omega] at h3
      exact h3
    · intro h k hk
      rw [zt_cmp, zt_block hq hi hk, zt_block hq hj hk]
      refine (zh_blk h01 hrq hi hj hk hk).mpr (fun m hm => ?_)
      rw [hrq.2 i _ hi (by omega), hrq.2 j _ hj (by omega)]
      exact h _ (Nat.mod_lt _ (by omega))
  by_cases z : ∀ k : Nat, k < 2 ^ fn → tr (4096 * i + k) = tr (4096 * j + k)
  · rw [if_pos z, if_pos (key.mpr z)]
  · rw [if_neg z, if_neg (fun z2 => z (key.mp z2))]
theorem zh_wt {U D : Nat → Nat} {fn w : Nat} (h : ∀ i : Nat, fn ≤ i → U i = 0 ∧ D i = 1) (hw : w < 2 ^ fn) : ∀ m, wt U D 0 (fn + m) w = wt U D 0 fn w := by
  intro m
  induction m with
  | zero => rfl
  | succ m ih =>
    obtain ⟨h1, h2⟩ := h (fn + m) (by omega)
    rw [← Nat.add_assoc, zw_low U D 0 (fn + m) w (Nat.lt_of_lt_of_le hw (Nat.pow_le_pow_right (by decide) (by omega))), ih, Nat.zero_add, h1, h2]
    simp
theorem zh_wb {U D : Nat → Nat} {w : Nat} : ∀ n : Nat, (∀ i, i < n → U i ≤ D i) → wt U D 0 n w ≤ zs_P D n := by
  intro n
  induction n with
  | zero => intro _; exact Nat.le_refl _
  | succ n ih =>
    intro h
    have h2 := h n (by omega)
    simp only [wt, zs_P]
    refine Nat.mul_le_mul (ih (fun i hi => h i (by omega))) ?_
    rw [Nat.zero_add]
    split <;> omega
theorem zh_W {fn w : Nat} {U D : Nat → Nat} {lw uw : Nat → Int64} (hf : fn ≤ 12) (hU : ∀ i : Nat, fn ≤ i → U i = 0 ∧ D i = 1) (hw : ∀ j : Nat, j < 64 → lw j = lN (wt U D 0 6 j) ∧ uw j = lN (wt U D 6 6 j)) (h : w < 2 ^ fn) : kvX0_weightOf lw uw (nI w) = lN (wt U D 0 fn w) := by
  have hp := zt_pw hf
  unfold kvX0_weightOf
  rw [pk_rem (by omega) (by decide) (by decide), pk_div (by omega) (by decide) (by decide), zt_at (by omega) (by decide), zt_at (by omega) (by decide), (hw _ (by omega)).1, (hw _ (by omega)).2, lN_mul]
  have hs := zs_split U D 0 6 (w % 64) (w / 64) (by omega) 6
  rw [show 0 + 6 = 6 from rfl, show 6 + 6 = 12 from rfl, show 2 ^ 6 * (w / 64) + w % 64 = w from by omega] at hs
  rw [← hs, ← zh_wt hU h (12 - fn), show fn + (12 - fn) = 12 from by omega]
theorem zh_lik {fn qn : Nat} {u d lw uw an : Nat → Int64} {mu md tr : Nat → Int32} (hR : rl fn qn u d lw uw an mu md tr) {i : Nat} (hi : i < qn) : ∃ U D : Nat → Nat, ro fn U D u d lw uw mu md ∧ ∀ n : Nat, n ≤ 2 ^ fn →
    (kl_lik lw uw an qn (nI i) n = (-2, -1) ∧ kl_best mu md tr fn i n = -2) ∨ (∃ m : Nat, m < n ∧ kl_lik lw uw an qn (nI i) n = (nI m, lN (wt U D 0 fn m)) ∧ kl_best mu md tr fn i n = nI m) := by
  obtain ⟨hf, hq, h01, hrq, U, D, hr⟩ := hR
  have hp := zt_pw hf
  have b2 : 8 ^ fn ≤ 2 ^ 36 := show 8 ^ fn ≤ 8 ^ 12 from Nat.pow_le_pow_right (by decide) hf
  have b1 := zs_Pb (D := D) fn (fun i hi => ⟨(hr.1 i hi).2.1, (hr.1 i hi).2.2.1⟩)
  have b3 : ∀ w, wt U D 0 fn w < 2 ^ 63 := fun w => by
    have := zh_wb (U := U) (D := D) (w := w) fn (fun i hi => (hr.1 i hi).1); omega
  refine ⟨U, D, hr, fun n => ?_⟩
  induction n with
  | zero => intro _; exact Or.inl ⟨rfl, rfl⟩
  | succ n ih =>
    intro hn
    have ih := ih (by omega)
    have hT := zh_true0 hq h01 hrq hi (show n < 4096 by omega)
    simp only [kl_lik, kl_best]
    by_cases e : tr (4096 * i + n) = 0
    · rw [if_pos (hT.mpr e), if_pos e]
      rcases ih with ih | ⟨m, m1, m2, m3⟩
      · exact Or.inl ih
      · exact Or.inr ⟨m, by omega, m2, m3⟩
    rw [if_neg (fun z => e (hT.mp z)), if_neg e, zh_W hf hr.2.1 hr.2.2.2 (by omega)]
    unfold kvX1_weigh
    rw [zs_weigh hf hr.1 (show n < 4096 by omega) fn (Nat.le_refl _)]
    rcases ih with ⟨m1, m2⟩ | ⟨m, m1, m2, m3⟩
    · rw [m1, m2]
      simp only []
      rw [if_neg, if_pos (by decide)]
      · exact Or.inr ⟨n, by omega, rfl, rfl⟩
      · rw [zt_le, pf_lI (b3 n), show (-1 : Int64).toInt = -1 from rfl]
        omega
    · rw [m2, m3]
      simp only []
      rw [if_neg (nI_pos (by omega)), zs_weigh hf hr.1 (show m < 4096 by omega) fn (Nat.le_refl _)]
      by_cases z : lg_cmp (lN (wt U D 0 fn n)) (lN (wt U D 0 fn m)) ≤ 0
      · rw [if_pos z, if_pos z]
        exact Or.inr ⟨m, by omega, rfl, rfl⟩
      · rw [if_neg z, if_neg z]
        exact Or.inr ⟨n, by omega, rfl, rfl⟩
theorem zl_likeliest {fn qn : Nat} {u d lw uw an : Nat → Int64} {mu md tr : Nat → Int32} (hR : rl fn qn u d lw uw an mu md tr) (q : Int32) : kvX0_likeliest lw uw an fn qn q = kvX1_likeliest mu md tr fn qn q := by
  have hq := hR.2.1
  unfold kvX0_likeliest kvX1_likeliest kvX0_likeliestWorld kvX1_best
  have hQ : kvX1_isQuestion qn q = kvX0_isQuestion qn q := rfl
  rw [hQ]
  by_cases e1 : kvX0_isQuestion qn q = 0
  · rw [if_pos e1, if_pos e1]
  rw [if_neg e1, if_neg e1]
  obtain ⟨i, hi, rfl⟩ := zt_isQ hq e1
  rw [nI_clamp (show i < 2 ^ 31 by omega)]
  obtain ⟨U, D, hr, h⟩ := zh_lik hR hi
  rcases h _ (Nat.le_refl _) with ⟨h1, h2⟩ | ⟨m, h0, h1, h2⟩
  · rw [h1, h2]
  · rw [h1, h2]
theorem zl_weight {fn qn : Nat} {u d lw uw an : Nat → Int64} {mu md tr : Nat → Int32} (hR : rl fn qn u d lw uw an mu md tr) (q : Int32) : kvX0_weight lw uw an fn qn q = kvX1_weight mu md tr fn qn q := by
  have hq := hR.2.1
  have hp := zt_pw hR.1
  unfold kvX0_weight kvX1_weight kvX0_likeliestWorld kvX1_best
  have hQ : kvX1_isQuestion qn q = kvX0_isQuestion qn q := rfl
  rw [hQ]
  by_cases e1 : kvX0_isQuestion qn q = 0
  · rw [if_pos e1, if_pos e1, if_neg (by decide)]
  rw [if_neg e1, if_neg e1]
  obtain ⟨i, hi, rfl⟩ := zt_isQ hq e1
  rw [nI_clamp (show i < 2 ^ 31 by omega)]
  obtain ⟨U, D, hr, h⟩ := zh_lik hR hi
  rcases h _ (Nat.le_refl _) with ⟨h1, h2⟩ | ⟨m, h0, h1, h2⟩
  · rw [h1, h2]; rfl
  · rw [h1, h2]
    simp only []
    rw [if_neg, if_pos (nI_pos' (by omega)), zh_W hR.1 hr.2.1 hr.2.2.2 h0]
    · unfold kvX1_weigh
      rw [zs_weigh hR.1 hr.1 (show m < 4096 by omega) fn (Nat.le_refl _)]
    · rw [fa_eq, nI_toInt (by omega), show (-2 : Int32).toInt = -2 from rfl]; omega
theorem zh_lcg (x : Int64) : ∃ m : Nat, m < 2 ^ 48 ∧ kl_lcg x = lN m := by
  obtain ⟨n, hn, h⟩ := wb_of (x * (25214903917 : Int64) + (11 : Int64))
  unfold kl_lcg
  rw [h, show (281474976710655 : Int64) = lN (2 ^ 48 - 1) from rfl, fb_maskL]
  exact ⟨n % 2 ^ 48, Nat.mod_lt _ (by decide), rfl⟩
theorem zh_dw {fn qn : Nat} {u d lw uw an : Nat → Int64} {mu md tr : Nat → Int32} (hR : rl fn qn u d lw uw an mu md tr) (sd : Int64) : ∀ n : Nat, n ≤ fn → ∃ m : Nat, m < 2 ^ n ∧ kl_dw u d sd n = nI m ∧ kl_mdw mu md sd n = nI m := by
  obtain ⟨hf, hq, h01, hrq, U, D, hr⟩ := hR
  intro n
  induction n with
  | zero => intro _; exact ⟨0, by decide, rfl, rfl⟩
  | succ n ih =>
    intro hn
    obtain ⟨m, m1, m2, m3⟩ := ih (by omega)
    obtain ⟨h1, h2, h3, h4, h5⟩ := hr.1 n (by omega)
    have h6 := hr.2.2.1 n (by omega)
    obtain ⟨x, hx, hl⟩ := zh_lcg (kl_sds sd n)
    have hp : 2 ^ (n + 1) = 2 ^ n + 2 ^ n := by rw [Nat.pow_succ]; omega
    have q1 : kvX0_draw (kl_sds sd n) = lN (x / 2 ^ 17) := by unfold kvX0_draw; rw [hl]; exact wb_shr (by omega) (by decide)
    have q2 : kl_mr (kl_sds sd (n + 1)) = lN (x / 2 ^ 17) := by
      show kl_mr (kl_lcg (kl_sds sd n)) = _
      rw [hl]; exact pf_shr (d := 17) (by decide) (by omega)
    have q3 : (mu n).toInt64 = lN (U n) := by rw [h4]; exact nI_l (by omega)
    have q4 : (md n).toInt64 = lN (D n) := by rw [h5]; exact nI_l (by omega)
    have q5 : kvX0_at 12 d (nI n) = lN (D n) := by rw [zt_at (by omega) (by decide)]; exact h6.2
    have q6 : kvX0_at 12 u (nI n) = lN (U n) := by rw [zt_at (by omega) (by decide)]; exact h6.1
    show ∃ m : Nat, m < 2 ^ (n + 1) ∧ (if lg_cmp (kvX0_at 12 d (nI n)) 0 ≤ 0 then kl_dw u d sd n else (if 0 ≤ lg_cmp (kvX0_draw (kl_sds sd n) - kvX0_draw (kl_sds sd n) / kvX0_at 12 d (nI n) * kvX0_at 12 d (nI n)) (kvX0_at 12 u (nI n)) then kl_dw u d sd n else kl_dw u d sd n ||| ((1 : Int32) <<< (nI n &&& 31)))) = nI m ∧ (if 0 ≤ lg_cmp (kl_mr (kl_sds sd (n + 1)) - kl_mr (kl_sds sd (n + 1)) / (md n).toInt64 * (md n).toInt64) ((mu n).toInt64) then kl_mdw mu md sd n else kl_mdw mu md sd n ||| nI (2 ^ n)) = nI m
    rw [q1, q2, q3, q4, q5, q6, m2, m3, oo_shl1 n (by omega)]
    rw [if_neg (show ¬ lg_cmp (lN (D n)) 0 ≤ 0 by rw [zt_le, pf_lI (by omega)]; show ¬ ((D n : Nat) : Int) ≤ 0; omega)]
    by_cases e : 0 ≤ lg_cmp (lN (x / 2 ^ 17) - lN (x / 2 ^ 17) / lN (D n) * lN (D n)) (lN (U n))
    · rw [if_pos e]; exact ⟨m, by omega, rfl, rfl⟩
    · rw [if_neg e]
      exact ⟨m ||| 2 ^ n, Nat.or_lt_two_pow (by omega) (by omega), fa_or m (2 ^ n), fa_or m (2 ^ n)⟩
theorem zl_sample_v {fn qn : Nat} {u d lw uw an : Nat → Int64} {mu md tr : Nat → Int32} (hR : rl fn qn u d lw uw an mu md tr) (q : Int32) (sd0 : Int64) (ws : Int32) : kvX0_sample u d an fn qn q sd0 ws = kvX1_sample mu md tr fn qn q sd0 ws := by
  have hq := hR.2.1
  have hp := zt_pw hR.1
  unfold kvX0_sample kvX1_sample
  have hQ : kvX1_isQuestion qn q = kvX0_isQuestion qn q := rfl
  rw [hQ]
  by_cases e1 : kvX0_isQuestion qn q = 0
  · rw [if_pos e1, if_pos e1]
  rw [if_neg e1, if_neg e1]
  obtain ⟨i, hi, rfl⟩ := zt_isQ hq e1
  rw [nI_clamp (show i < 2 ^ 31 by omega)]
  have key : ∀ sd n, kl_samC u d an fn qn (nI i) sd n = kl_msC mu md tr fn i sd n := by
    intro sd n
    induction n with
    | zero => rfl
    | succ n ih =>
      simp only [kl_samC, kl_msC]
      unfold kvX0_drawWorld kvX1_draw
      obtain ⟨m, m1, m2, m3⟩ := zh_dw hR (kl_samS sd fn n) fn (Nat.le_refl _)
      rw [m2, m3, ih, nI_clamp (show m < 2 ^ 31 by omega)]
      have hT := zh_true0 hq hR.2.2.1 hR.2.2.2.1 hi (show m < 4096 by omega)
      by_cases e : tr (4096 * i + m) = 0
      · rw [if_pos e, if_pos (hT.mpr e), Int32.add_zero]
      · rw [if_neg e, if_neg (fun z => e (hT.mp z))]
  rw [key]
