/-! weights: the running products -/
theorem zw_mod (U D : Nat → Nat) (s : Nat) : ∀ i j : Nat, wt U D s i (j % 2 ^ i) = wt U D s i j ∧ ∀ n, i ≤ n → wt U D s i (j % 2 ^ n) = wt U D s i j := by
  intro i
  induction i with
  | zero => intro j; exact ⟨rfl, fun _ _ => rfl⟩
  | succ i ih =>
    intro j
    have h : ∀ n, i + 1 ≤ n → wt U D s (i + 1) (j % 2 ^ n) = wt U D s (i + 1) j := by
      intro n hn
      simp only [wt]
      rw [(ih j).2 n (by omega), Nat.testBit_mod_two_pow]
      simp only [show i < n from hn, decide_true, Bool.true_and]
    exact ⟨h (i + 1) (Nat.le_refl _), h⟩
theorem zw_low (U D : Nat → Nat) (s i j : Nat) (h : j < 2 ^ i) : wt U D s (i + 1) j = wt U D s i j * (D (s + i) - U (s + i)) := by
  simp only [wt]
  rw [Nat.testBit_lt_two_pow h]; rfl
theorem zw_high (U D : Nat → Nat) (s i j : Nat) (h : j < 2 ^ i) : wt U D s (i + 1) (j + 2 ^ i) = wt U D s i j * U (s + i) := by
  simp only [wt]
  rw [show (j + 2 ^ i).testBit i = true from by rw [Nat.add_comm, Nat.testBit_two_pow_add_eq, Nat.testBit_lt_two_pow h]; rfl]
  have h2 := (zw_mod U D s i (j + 2 ^ i)).1
  rw [Nat.add_mod_right, Nat.mod_eq_of_lt h] at h2
  rw [← h2]; rfl
theorem zw_I (up rest : Int64) {i : Nat} (hi : i < 6) (w : Nat → Int64) : ∀ n : Nat, n ≤ 2 ^ i → ∀ j : Nat, kl_whI up rest (2 ^ i) w n j = if j < n then w j * rest else if 2 ^ i ≤ j ∧ j < 2 ^ i + n then w (j - 2 ^ i) * up else w j := by
  have hp : 2 ^ i ≤ 2 ^ 5 := Nat.pow_le_pow_right (by decide) (by omega)
  intro n
  induction n with
  | zero => intro _ j; simp only [kl_whI]; rw [if_neg (by omega), if_neg (by omega)]
  | succ n ih =>
    intro hn j
    have ih := ih (by omega)
    simp only [kl_whI]
    have e1 : kl_whI up rest (2 ^ i) w n n = w n := by rw [ih n, if_neg (by omega), if_neg (by omega)]
    rw [zt_at (by omega) (by decide), e1, nI_add, zt_put (by omega) (by decide), zt_put (by omega) (by decide)]
    unfold vp_updL
    by_cases h1 : j = n + 2 ^ i
    · rw [if_pos h1, if_neg (by omega), if_pos (by omega), h1, Nat.add_sub_cancel]
    · rw [if_neg h1]
      by_cases h2 : j = n
      · rw [if_pos h2, if_pos (by omega), h2]
      · rw [if_neg h2, ih j]
        by_cases h3 : j < n
        · rw [if_pos h3, if_pos (by omega)]
        · rw [if_neg h3]
          rw [if_neg (show ¬ j < n + 1 by omega)]
          by_cases h4 : 2 ^ i ≤ j ∧ j < 2 ^ i + n
          · rw [if_pos h4, if_pos (by omega)]
          · rw [if_neg h4, if_neg (by omega)]
theorem zw_O {u d : Nat → Int64} {U D : Nat → Nat} {s : Nat} (hs : s ≤ 6) (h : ∀ i : Nat, i < 12 → u i = lN (U i) ∧ d i = lN (D i) ∧ U i ≤ D i) (w : Nat → Int64) : ∀ i : Nat, i ≤ 6 → ∀ j : Nat, j < 2 ^ i → kl_whO u d (nI s) w i j = lN (wt U D s i j) := by
  intro i
  induction i with
  | zero =>
    intro _ j hj
    have hj : j = 0 := by simpa using hj
    subst hj
    simp only [kl_whO, wt]
    rw [show (0 : Int32) = nI 0 from rfl, zt_put (by decide) (by decide)]
    rfl
  | succ i ih =>
    intro hi j hj
    have ih := ih (by omega)
    have hp : 2 ^ (i + 1) = 2 ^ i + 2 ^ i := by rw [Nat.pow_succ]; omega
    simp only [kl_whO]
    obtain ⟨h1, h2, h3⟩ := h (s + i) (by omega)
    rw [nI_add, zt_at (by omega) (by decide), zt_at (by omega) (by decide), h1, h2, lN_sub h3, zw_I _ _ (by omega) _ _ (Nat.le_refl _)]
    by_cases h4 : j < 2 ^ i
    · rw [if_pos h4, ih j h4, lN_mul, zw_low U D s i j h4]
    · rw [if_neg h4, if_pos (by omega), ih _ (by omega), lN_mul]
      have h5 := zw_high U D s i (j - 2 ^ i) (by omega)
      rw [Nat.sub_add_cancel (by omega)] at h5
      rw [h5]
def zw_u (U : Nat → Nat) (k x : Nat) : Nat → Nat := fun i => if i = k then x else U i
/-- the odds and the weights after new odds at one place -/
theorem zw_ro {fn fn9 : Nat} {U D : Nat → Nat} {u d lw uw : Nat → Int64} {mu md : Nat → Int32} {k a b : Nat} {lw2 uw2 : Nat → Int64} (hf : fn9 ≤ 12) (hk : k < fn9) (h1 : fn ≤ fn9) (h2 : fn9 ≤ fn ∨ (fn9 = fn + 1 ∧ k = fn)) (ha : a ≤ b) (hb : 1 ≤ b) (hb8 : b ≤ 8) (hr : ro fn U D u d lw uw mu md) :
    ro fn9 (zw_u U k a) (zw_u D k b) (kvX0_put_c0 12 u (nI k) (lN a)) (kvX0_put_c0 12 d (nI k) (lN b)) (kl_whO (kvX0_put_c0 12 u (nI k) (lN a)) (kvX0_put_c0 12 d (nI k) (lN b)) (0 : Int32) lw2 6) (kl_whO (kvX0_put_c0 12 u (nI k) (lN a)) (kvX0_put_c0 12 d (nI k) (lN b)) (nI 6) uw2 6) (upd mu k (nI a)) (upd md k (nI b)) := by
  obtain ⟨r1, r2, r3, r4⟩ := hr
  rw [zt_put (by omega) (by decide), zt_put (by omega) (by decide)]
  have g2 : ∀ i, fn9 ≤ i → zw_u U k a i = 0 ∧ zw_u D k b i = 1 := by
    intro i hi
    unfold zw_u
    rw [if_neg (by omega), if_neg (by omega)]
    exact r2 i (by omega)
  have g1 : ∀ i, i < fn9 → zw_u U k a i ≤ zw_u D k b i ∧ 1 ≤ zw_u D k b i ∧ zw_u D k b i ≤ 8 ∧ upd mu k (nI a) i = nI (zw_u U k a i) ∧ upd md k (nI b) i = nI (zw_u D k b i) := by
    intro i hi
    unfold zw_u upd
    by_cases e : i = k
    · simp only [if_pos e]; exact ⟨ha, hb, hb8, trivial, trivial⟩
    · simp only [if_neg e]; exact r1 i (by omega)
  have g3 : ∀ i : Nat, i < 12 → vp_updL u k (lN a) i = lN (zw_u U k a i) ∧ vp_updL d k (lN b) i = lN (zw_u D k b i) := by
    intro i hi
    unfold zw_u vp_updL
    by_cases e : i = k
    · simp only [if_pos e]; exact ⟨trivial, trivial⟩
    · simp only [if_neg e]; exact r3 i hi
  have g4 : ∀ i : Nat, i < 12 → vp_updL u k (lN a) i = lN (zw_u U k a i) ∧ vp_updL d k (lN b) i = lN (zw_u D k b i) ∧ zw_u U k a i ≤ zw_u D k b i := by
    intro i hi
    refine ⟨(g3 i hi).1, (g3 i hi).2, ?_⟩
    by_cases e : i < fn9
    · exact (g1 i e).1
    · have := g2 i (by omega); omega
  refine ⟨g1, g2, g3, fun j hj => ⟨?_, ?_⟩⟩
  · exact zw_O (s := 0) (by omega) g4 lw2 6 (by omega) j hj
  · exact zw_O (s := 6) (by omega) g4 uw2 6 (by omega) j hj
theorem zl_fact_v {fn qn : Nat} {u d lw uw an : Nat → Int64} {mu md tr : Nat → Int32} (hR : rl fn qn u d lw uw an mu md tr) (up dn : Int32) : kvX0_fact fn up dn = kvX1_fact fn up dn := by
  have hf := hR.1
  unfold kvX0_fact kvX1_fact
  show (if kvX0_areOdds up dn = 0 then _ else _) = (if kvX0_areOdds up dn = 0 then _ else _)
  by_cases h : fn = 12
  · subst h; rfl
  · rw [if_pos (nI_lt (by omega) (by decide)), if_neg (fun e => h ((nI_eq (by omega) (by decide)).mp e))]
theorem zw_rq {fn fn9 qn : Nat} {an : Nat → Int64} {tr : Nat → Int32} (h1 : fn ≤ fn9) (h : rq fn qn an tr) : rq fn9 qn an tr := by
  refine ⟨h.1, fun q w hq hw => ?_⟩
  have h2 : w % 2 ^ fn9 < 4096 := Nat.lt_of_le_of_lt (Nat.mod_le _ _) hw
  rw [h.2 q w hq hw, h.2 q (w % 2 ^ fn9) hq h2, Nat.mod_mod_of_dvd w (Nat.pow_dvd_pow 2 h1)]
theorem zl_fact {fn qn : Nat} {u d lw uw an : Nat → Int64} {mu md tr : Nat → Int32} (hR : rl fn qn u d lw uw an mu md tr) (up dn : Int32) : ∃ fn9 : Nat, kvX0_fact_fc fn up dn = nI fn9 ∧ kvX1_fact_fc fn up dn = nI fn9 ∧ rl fn9 qn (kvX0_fact_u u fn up dn) (kvX0_fact_d d fn up dn) (kvX0_fact_lw u d lw fn up dn) (kvX0_fact_uw u d uw fn up dn) an (kvX1_fact_u mu fn up dn) (kvX1_fact_d md fn up dn) tr := by
  have hf := hR.1
  have hO : kvX1_areOdds up dn = kvX0_areOdds up dn := rfl
  unfold kvX0_fact_fc kvX1_fact_fc kvX0_fact_u kvX0_fact_d kvX0_fact_lw kvX0_fact_uw kvX1_fact_u kvX1_fact_d
  by_cases h : kvX0_areOdds up dn = 0
  · simp only [hO, if_pos h]; exact ⟨fn, rfl, rfl, hR⟩
  · simp only [hO, if_neg h]
    by_cases h2 : fn = 12
    · subst h2
      simp only [if_pos (show nI 12 = nI 12 from rfl), if_neg (show ¬ nI 12 < nI 12 from by decide)]; exact ⟨12, rfl, rfl, hR⟩
    · simp only [if_pos (nI_lt (show fn < 12 by omega) (by decide)), if_neg (fun e => h2 ((nI_eq (by omega) (by decide)).mp e))]
      obtain ⟨a, b, rfl, rfl, h3, h4, h5⟩ := zt_areO h
      refine ⟨fn + 1, rfl, rfl, by omega, hR.2.1, hR.2.2.1, zw_rq (by omega) hR.2.2.2.1, ?_⟩
      obtain ⟨U, D, hr⟩ := hR.2.2.2.2
      rw [nI_l (by omega), nI_l (by omega)]
      exact ⟨_, _, zw_ro (fn := fn) (by omega) (by omega) (by omega) (Or.inr ⟨rfl, rfl⟩) h3 h4 h5 hr⟩
theorem zl_odds_v {fn qn : Nat} {u d lw uw an : Nat → Int64} {mu md tr : Nat → Int32} (hR : rl fn qn u d lw uw an mu md tr) (k up dn : Int32) : kvX0_odds fn k up dn = kvX1_odds fn k up dn := by
  unfold kvX0_odds kvX1_odds kvX0_isFact
  have hO : kvX1_areOdds up dn = kvX0_areOdds up dn := rfl
  simp only [hO]
  by_cases h1 : k < 0
  · rw [if_pos h1, if_pos h1, if_pos rfl]
  · by_cases h2 : nI fn ≤ k
    · rw [if_neg h1, if_pos h2, if_neg h1, if_pos h2, if_pos rfl]
    · rw [if_neg h1, if_neg h2, if_neg h1, if_neg h2, if_neg (by decide)]
theorem zt_isF {fn : Nat} {k : Int32} (hf : fn ≤ 12) : (kvX0_isFact fn k = 0 ∧ (k < 0 ∨ nI fn ≤ k)) ∨ (¬ kvX0_isFact fn k = 0 ∧ ¬ k < 0 ∧ ¬ nI fn ≤ k ∧ ∃ j : Nat, j < fn ∧ k = nI j ∧ k.toNatClampNeg = j) := by
  unfold kvX0_isFact
  by_cases h1 : k < 0
  · rw [if_pos h1]; exact Or.inl ⟨rfl, Or.inl h1⟩
  · by_cases h2 : nI fn ≤ k
    · rw [if_neg h1, if_pos h2]; exact Or.inl ⟨rfl, Or.inr h2⟩
    · rw [if_neg h1, if_neg h2]
      obtain ⟨j, h3, h4, -⟩ := pk_mu h1 h2 (by omega)
      exact Or.inr ⟨by decide, h1, h2, j, h3, h4, by rw [h4, nI_clamp (by omega)]⟩
theorem zl_odds {fn qn : Nat} {u d lw uw an : Nat → Int64} {mu md tr : Nat → Int32} (hR : rl fn qn u d lw uw an mu md tr) (k up dn : Int32) : rl fn qn (kvX0_odds_u u fn k up dn) (kvX0_odds_d d fn k up dn) (kvX0_odds_lw u d lw fn k up dn) (kvX0_odds_uw u d uw fn k up dn) an (kvX1_odds_u mu fn k up dn) (kvX1_odds_d md fn k up dn) tr := by
  have hf := hR.1
  have hO : kvX1_areOdds up dn = kvX0_areOdds up dn := rfl
  unfold kvX0_odds_u kvX0_odds_d kvX0_odds_lw kvX0_odds_uw kvX1_odds_u kvX1_odds_d
  rcases zt_isF (k := k) hf with ⟨h1, h2⟩ | ⟨h1, h2, h3, j, h4, h5, h6⟩
  · simp only [if_pos h1]
    rcases h2 with h2 | h2
    · simp only [if_pos h2]; exact hR
    · by_cases h3 : k < 0
      · simp only [if_pos h3]; exact hR
      · simp only [if_neg h3, if_pos h2]; exact hR
  · simp only [if_neg h1, if_neg h2, if_neg h3, hO]
    by_cases h : kvX0_areOdds up dn = 0
    · simp only [if_pos h]; exact hR
    · simp only [if_neg h, h6]
      obtain ⟨a, b, rfl, rfl, h7, h8, h9⟩ := zt_areO h
      obtain ⟨U, D, hr⟩ := hR.2.2.2.2
      rw [nI_l (by omega), nI_l (by omega), h5]
      exact ⟨hf, hR.2.1, hR.2.2.1, hR.2.2.2.1, _, _, zw_ro (fn := fn) hf h4 (by omega) (Or.inl (by omega)) h7 h8 h9 hr⟩
theorem zl_hdz {fn qn : Nat} {u d lw uw an : Nat → Int64} {mu md tr : Nat → Int32} (hR : rl fn qn u d lw uw an mu md tr) : ∀ j : Nat, j < fn → ¬ (md j).toInt64 = 0 := by
  intro j hj
  obtain ⟨U, D, hr⟩ := hR.2.2.2.2
  obtain ⟨h1, h2, h3, h4, h5⟩ := hr.1 j hj
  rw [h5, nI_l (by omega)]
  intro e
  have := (lN_eq (a := D j) (b := 0) (by omega) (by omega)).mp e
  omega
theorem zl_d0 : ∀ n : Nat, n ≤ 12 → ∀ i : Nat, kl_d0 n i = if i < n then 1 else 0 := by
  intro n
  induction n with
  | zero => intro _ i; simp only [kl_d0]; rw [if_neg (by omega)]
  | succ n ih =>
    intro hn i
    simp only [kl_d0]
    rw [zt_put (by omega) (by decide)]
    unfold vp_updL
    by_cases e : i = n
    · rw [if_pos e, if_pos (by omega)]
    · rw [if_neg e, ih (by omega) i]
      by_cases e2 : i < n
      · rw [if_pos e2, if_pos (by omega)]
      · rw [if_neg e2, if_neg (by omega)]
theorem zl_init : rl 0 0 (fun _ => 0) (kl_d0 12) (kl_whO (fun _ => 0) (kl_d0 12) (0 : Int32) (fun _ => 0) 6) (kl_whO (fun _ => 0) (kl_d0 12) (nI 6) (fun _ => 0) 6) (fun _ => 0) (fun _ => 0) (fun _ => 0) (fun _ => 0) := by
  have g : ∀ i : Nat, i < 12 → (fun _ => (0 : Int64)) i = lN ((fun _ => 0 : Nat → Nat) i) ∧ kl_d0 12 i = lN ((fun _ => 1 : Nat → Nat) i) ∧ (fun _ => 0 : Nat → Nat) i ≤ (fun _ => 1 : Nat → Nat) i := by
    intro i hi
    exact ⟨rfl, by rw [zl_d0 12 (by omega) i, if_pos hi]; rfl, Nat.zero_le 1⟩
  refine ⟨by omega, by omega, fun _ => Or.inl rfl, ⟨fun q b k hq => absurd hq (by omega), fun q w hq => absurd hq (by omega)⟩, fun _ => 0, fun _ => 1, fun i hi => absurd hi (by omega), fun _ _ => ⟨rfl, rfl⟩, fun i hi => ⟨(g i hi).1, (g i hi).2.1⟩, fun j hj => ⟨?_, ?_⟩⟩
  · exact zw_O (s := 0) (by omega) g _ 6 (by omega) j hj
  · exact zw_O (s := 6) (by omega) g _ 6 (by omega) j hj
