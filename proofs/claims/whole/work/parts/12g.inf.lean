/-! influence -/
theorem zi_back {f : Nat → Int64} {j : Nat} (hj : j < 12) (x : Int64) : kvX0_put_c0 12 (kvX0_put_c0 12 f (nI j) x) (nI j) (kvX0_at 12 f (nI j)) = f := by
  rw [zt_put hj (by decide), zt_put hj (by decide), zt_at hj (by decide)]
  funext i
  unfold vp_updL
  by_cases e : i = j
  · rw [if_pos e, e]
  · rw [if_neg e, if_neg e]
theorem zi_ro0 {fn : Nat} {U D : Nat → Nat} {u d lw uw lw2 uw2 : Nat → Int64} {mu md : Nat → Int32} (hr : ro fn U D u d lw uw mu md) : ro fn U D u d (kl_whO u d (0 : Int32) lw2 6) (kl_whO u d (nI 6) uw2 6) mu md := by
  obtain ⟨r1, r2, r3, r4⟩ := hr
  have g4 : ∀ i : Nat, i < 12 → u i = lN (U i) ∧ d i = lN (D i) ∧ U i ≤ D i := by
    intro i hi
    refine ⟨(r3 i hi).1, (r3 i hi).2, ?_⟩
    by_cases e : i < fn
    · exact (r1 i e).1
    · have := r2 i (by omega); omega
  exact ⟨r1, r2, r3, fun j hj => ⟨zw_O (s := 0) (by omega) g4 lw2 6 (by omega) j hj, zw_O (s := 6) (by omega) g4 uw2 6 (by omega) j hj⟩⟩
theorem zl_influence {fn qn : Nat} {u d lw uw an : Nat → Int64} {mu md tr : Nat → Int32} (hR : rl fn qn u d lw uw an mu md tr) (q k pt : Int32) : rl fn qn (kvX0_influence_u u fn qn q k pt) (kvX0_influence_d d fn qn q k pt) (kvX0_influence_lw u d lw fn qn q k pt) (kvX0_influence_uw u d uw fn qn q k pt) an mu md tr := by
  have hf := hR.1
  unfold kvX0_influence_u kvX0_influence_d kvX0_influence_lw kvX0_influence_uw
  by_cases e1 : kvX0_isQuestion qn q = 0
  · simp only [if_pos e1]; exact hR
  rcases zt_isF (k := k) hf with ⟨h1, h2⟩ | ⟨h1, h2, h3, j, h4, h5, h6⟩
  · simp only [if_neg e1, if_pos h1]; exact hR
  by_cases e2 : kvX0_isPart pt = 0
  · simp only [if_neg e1, if_neg h1, if_pos e2]; exact hR
  subst h5
  simp only [if_neg e1, if_neg h1, if_neg e2, zi_back (show j < 12 by omega)]
  obtain ⟨U, D, hr⟩ := hR.2.2.2.2
  exact ⟨hf, hR.2.1, hR.2.2.1, hR.2.2.2.1, U, D, zi_ro0 hr⟩
/-- one fact surely so: the sums on both sides, and the product of the other bounds -/
theorem zi_R {fn qn : Nat} {u d lw uw an : Nat → Int64} {mu md tr : Nat → Int32} (hR : rl fn qn u d lw uw an mu md tr) {i j : Nat} (hi : i < qn) (hj : j < fn) : ∃ s1 s0 P : Nat, s1 ≤ 2 ^ 36 ∧ s0 ≤ 2 ^ 36 ∧ 1 ≤ P ∧ P ≤ 2 ^ 36 ∧
    (∀ lw2 uw2, kvX0_sumWhenSurely u d lw2 uw2 an qn (nI i) (nI j) 1 = lN s1) ∧ (∀ lw2 uw2, kvX0_sumWhenSurely u d lw2 uw2 an qn (nI i) (nI j) 0 = lN s0) ∧ kvX0_allBut d fn (nI j) = lN P ∧
    kvX1_sum (upd mu j 1) (upd md j 1) tr fn i = lN s1 ∧ kvX1_sum (upd (upd mu j 1) j 0) (upd md j 1) tr fn i = lN s0 ∧ kvX1_all (upd md j 1) fn = lN P := by
  obtain ⟨hf, hq, h01, hrq, U, D, hr⟩ := hR
  have hp := zt_pw hf
  have key : ∀ a : Nat, a ≤ 1 → ∀ lw2 uw2, ro fn (zw_u U j a) (zw_u D j 1) (kvX0_put_c0 12 u (nI j) (lN a)) (kvX0_put_c0 12 d (nI j) (lN 1)) (kl_whO (kvX0_put_c0 12 u (nI j) (lN a)) (kvX0_put_c0 12 d (nI j) (lN 1)) (0 : Int32) lw2 6) (kl_whO (kvX0_put_c0 12 u (nI j) (lN a)) (kvX0_put_c0 12 d (nI j) (lN 1)) (nI 6) uw2 6) (upd mu j (nI a)) (upd md j (nI 1)) :=
    fun a ha lw2 uw2 => zw_ro (fn := fn) hf hj (Nat.le_refl _) (Or.inl (Nat.le_refl _)) ha (by omega) (by omega) hr
  have b0 : ∀ a : Nat, a ≤ 1 → ∀ i', i' < fn → zw_u U j a i' ≤ zw_u D j 1 i' := fun a ha i' hi' => ((key a ha lw uw).1 i' hi').1
  have b1 := zs_Pb (D := zw_u D j 1) fn (fun i' hi' => ⟨((key 1 (by omega) lw uw).1 i' hi').2.1, ((key 1 (by omega) lw uw).1 i' hi').2.2.1⟩)
  have b2 : 8 ^ fn ≤ 2 ^ 36 := show 8 ^ fn ≤ 8 ^ 12 from Nat.pow_le_pow_right (by decide) hf
  have b3 : ∀ a : Nat, a ≤ 1 → zs_S (zw_u U j a) (zw_u D j 1) tr fn i i ≤ 2 ^ 36 := fun a ha => Nat.le_trans (zs_leP (b0 a ha)) (by omega)
  refine ⟨zs_S (zw_u U j 1) (zw_u D j 1) tr fn i i, zs_S (zw_u U j 0) (zw_u D j 1) tr fn i i, zs_P (zw_u D j 1) fn, b3 1 (by omega), b3 0 (by omega), b1.1, by omega, fun lw2 uw2 => ?_, fun lw2 uw2 => ?_, ?_, ?_, ?_, ?_⟩
  · have h := key 1 (by omega) lw2 uw2
    exact zs_sum hf hq hrq h.2.1 h.2.2.2 hi hi
  · have h := key 0 (by omega) lw2 uw2
    exact zs_sum hf hq hrq h.2.1 h.2.2.2 hi hi
  · exact zs_butK (by omega) fn hf (fun i' hi' => (hr.2.2.1 i' (by omega)).2)
  · exact (zs_msum h01 hf (key 1 (by omega) lw uw).1 (2 ^ fn) (by omega)).1
  · rw [fa_upd_twice]
    exact (zs_msum h01 hf (key 0 (by omega) lw uw).1 (2 ^ fn) (by omega)).1
  · exact zs_all fn (fun i' hi' => ⟨((key 1 (by omega) lw uw).1 i' hi').2.2.1, ((key 1 (by omega) lw uw).1 i' hi').2.2.2.2⟩)
theorem zl_inf {fn qn : Nat} {u d lw uw an : Nat → Int64} {mu md tr : Nat → Int32} (hR : rl fn qn u d lw uw an mu md tr) (q k : Int32) (h1 : ¬ kvX1_isQuestion qn q = 0) (h2 : ¬ k < 0) (h3 : ¬ nI fn ≤ k) :
    (kl_gcd (kl_abs (kvX1_sum (upd mu k.toNatClampNeg (1 : Int32)) (upd md k.toNatClampNeg (1 : Int32)) tr fn q.toNatClampNeg - kvX1_sum (upd (upd mu k.toNatClampNeg (1 : Int32)) k.toNatClampNeg (0 : Int32)) (upd md k.toNatClampNeg (1 : Int32)) tr fn q.toNatClampNeg)) (kvX1_all (upd md k.toNatClampNeg (1 : Int32)) fn) 100).2 = 0 ∧
    ¬ (kl_gcd (kl_abs (kvX1_sum (upd mu k.toNatClampNeg (1 : Int32)) (upd md k.toNatClampNeg (1 : Int32)) tr fn q.toNatClampNeg - kvX1_sum (upd (upd mu k.toNatClampNeg (1 : Int32)) k.toNatClampNeg (0 : Int32)) (upd md k.toNatClampNeg (1 : Int32)) tr fn q.toNatClampNeg)) (kvX1_all (upd md k.toNatClampNeg (1 : Int32)) fn) 100).1 = 0 := by
  have hq := hR.2.1
  have hf := hR.1
  obtain ⟨i, hi, rfl⟩ := zt_isQ hq h1
  obtain ⟨j, hj, rfl, -⟩ := pk_mu h2 h3 (by omega)
  rw [nI_clamp (by omega), nI_clamp (by omega)]
  obtain ⟨s1, s0, P, b1, b0, b2, b3, e1, e2, e3, e4, e5, e6⟩ := zi_R hR hi hj
  rw [e4, e5, e6]
  obtain ⟨z, z1, z2, z3⟩ := zg_absd (x := s1) (y := s0) (by omega) (by omega)
  rw [z3]
  obtain ⟨g, g1, g2, g3, g4, g5⟩ := zg_main (a := z) (b := P) (by omega) (by omega) b2
  rw [g5]
  exact ⟨rfl, fun e => by have := (fb_lN_inj (b := 0) (by omega) (by decide)).mp e; omega⟩
theorem zl_influence_v {fn qn : Nat} {u d lw uw an : Nat → Int64} {mu md tr : Nat → Int32} (hR : rl fn qn u d lw uw an mu md tr) (q k pt : Int32) : kvX0_influence u d lw uw an fn qn q k pt = kvX1_influence mu md tr fn qn q k pt := by
  have hq := hR.2.1
  have hf := hR.1
  unfold kvX0_influence kvX1_influence
  have hQ : kvX1_isQuestion qn q = kvX0_isQuestion qn q := rfl
  rw [hQ]
  by_cases e1 : kvX0_isQuestion qn q = 0
  · rw [if_pos e1, if_pos e1]
  rw [if_neg e1, if_neg e1]
  rcases zt_isF (k := k) hf with ⟨h1, h2⟩ | ⟨h1, h2, h3, j, h4, h5, h6⟩
  · rw [if_pos h1]
    rcases h2 with h2 | h2
    · rw [if_pos h2]
    · by_cases h3 : k < 0
      · rw [if_pos h3]
      · rw [if_neg h3, if_pos h2]
  rw [if_neg h1, if_neg h2, if_neg h3]
  subst h5
  obtain ⟨i, hi, rfl⟩ := zt_isQ hq e1
  have hpt : (kvX0_isPart pt = 0 ∧ (pt < 0 ∨ ¬ pt ≤ 1)) ∨ (¬ kvX0_isPart pt = 0 ∧ ¬ pt < 0 ∧ pt ≤ 1) := by
    unfold kvX0_isPart
    by_cases p0 : pt = 0
    · subst p0; rw [if_pos rfl]; exact Or.inr ⟨by decide, by decide, by decide⟩
    · by_cases p1 : pt = 1
      · subst p1; rw [if_neg p0, if_pos rfl]; exact Or.inr ⟨by decide, by decide, by decide⟩
      · rw [if_neg p0, if_neg p1]
        refine Or.inl ⟨rfl, ?_⟩
        rw [fa_eq] at p0 p1
        rw [fa_lt, fa_le]
        have z0 : (0 : Int32).toInt = 0 := rfl
        have z1 : (1 : Int32).toInt = 1 := rfl
        omega
  rcases hpt with ⟨p1, p2⟩ | ⟨p1, p2, p3⟩
  · rw [if_pos p1]
    rcases p2 with p2 | p2
    · rw [if_pos p2]
    · by_cases p3 : pt < 0
      · rw [if_pos p3]
      · rw [if_neg p3, if_neg p2]
  rw [if_neg p1, if_neg p2, if_pos p3]
  simp only [zi_back (show j < 12 by omega)]
  rw [nI_clamp (show i < 2 ^ 31 by omega), h6]
  obtain ⟨s1, s0, P, b1, b0, b2, b3, x1, x2, x3, x4, x5, x6⟩ := zi_R hR hi h4
  rw [x1, x2, x3, x4, x5, x6]
  unfold kvX0_lowestPart kvX1_part
  obtain ⟨z, z1, z2, z3⟩ := zg_absd (x := s1) (y := s0) (by omega) (by omega)
  rw [z3, zg_abs (show P < 2 ^ 63 by omega)]
  obtain ⟨g, g1, g2, g3, g4, g5⟩ := zg_main (a := z) (b := P) (by omega) (by omega) b2
  rw [g5]
  have hg : ¬ lg_cmp (lN g) 0 = 0 := fun z => by have := (zg_cz (x := g) (by omega)).mp z; omega
  simp only [if_neg hg]
