/-! doubles of whole numbers, and real -/
theorem zr_round {S : Nat} (h1 : 1 ≤ S) (h2 : S < 2 ^ 53) : ∃ a : Nat, a ≤ 52 ∧ 2 ^ 52 ≤ S * 2 ^ a ∧ S * 2 ^ a < 2 ^ 53 ∧ FP.Core.round FP.Core.b64 (FP.Core.ofInt (S : Int)) = .fin false (S * 2 ^ a) (-(a : Int)) := by
  obtain ⟨k1, k2, k3, k4, k5⟩ := zf_k
  have hL : S.log2 < 53 := (Nat.log2_lt (by omega)).mpr h2
  have lo : 2 ^ S.log2 ≤ S := Nat.log2_self_le (by omega)
  have up : S < 2 ^ (S.log2 + 1) := Nat.lt_log2_self
  have s1 : 2 ^ S.log2 * 2 ^ (52 - S.log2) = 2 ^ 52 := by rw [← Nat.pow_add]; congr 1; omega
  have s2 : 2 ^ (S.log2 + 1) * 2 ^ (52 - S.log2) = 2 ^ 53 := by rw [← Nat.pow_add]; congr 1; omega
  have t1 : 2 ^ 52 ≤ S * 2 ^ (52 - S.log2) := by rw [← s1]; exact Nat.mul_le_mul lo (Nat.le_refl _)
  have t2 : S * 2 ^ (52 - S.log2) < 2 ^ 53 := by rw [← s2]; exact Nat.mul_lt_mul_of_pos_right up (Nat.two_pow_pos _)
  refine ⟨52 - S.log2, by omega, t1, t2, ?_⟩
  have hl : FP.Core.leading S 1 = (S.log2 : Int) := by
    unfold FP.Core.leading
    have z : (1 : Nat).log2 = 0 := by decide +kernel
    rw [z]
    have z2 : ((S.log2 : Int) - ((0 : Nat) : Int)) = (S.log2 : Int) := by omega
    simp only [z2]
    rw [if_pos]
    rw [show ((S.log2 : Int)).toNat = S.log2 from by omega, show (-(S.log2 : Int)).toNat = 0 from by omega, Nat.pow_zero, Nat.one_mul, Nat.mul_one]
    exact lo
  show FP.Core.roundRatio FP.Core.b64 (decide ((S : Int) < 0)) (S : Int).natAbs 1 0 = _
  rw [show decide ((S : Int) < 0) = false from decide_eq_false (by omega), show (S : Int).natAbs = S from by omega]
  unfold FP.Core.roundRatio
  rw [if_neg (by omega)]
  unfold FP.Core.roundAt FP.Core.quantum
  rw [hl, k1, k5]
  have hq : max (-1074 : Int) ((S.log2 : Int) + 0 - (((53 : Nat) : Int) - 1)) = -((52 - S.log2 : Nat) : Int) := by omega
  rw [hq]
  unfold FP.Core.unitsNum FP.Core.unitsDen
  rw [show ((0 : Int) - -((52 - S.log2 : Nat) : Int)).toNat = 52 - S.log2 from by omega, show (-((52 - S.log2 : Nat) : Int) - 0).toNat = 0 from by omega, Nat.pow_zero, Nat.mul_one]
  have hn : FP.Core.nearest (S * 2 ^ (52 - S.log2)) 1 = S * 2 ^ (52 - S.log2) := by
    unfold FP.Core.nearest
    rw [Nat.mod_one, Nat.div_one]
    rfl
  rw [hn]
  unfold FP.Core.settle FP.Core.bound
  rw [k5, if_pos t2, k2, if_pos (by omega)]
theorem zr_l2d {S : Nat} (h1 : 1 ≤ S) (h2 : S < 2 ^ 53) : ∃ a : Nat, a ≤ 52 ∧ 2 ^ 52 ≤ S * 2 ^ a ∧ S * 2 ^ a < 2 ^ 53 ∧ FP.Core.decode FP.Core.b64 (FP.l2d (lN S)).toNat = .fin false (S * 2 ^ a) (-(a : Int)) := by
  obtain ⟨a, a1, a2, a3, a4⟩ := zr_round h1 h2
  refine ⟨a, a1, a2, a3, ?_⟩
  show FP.Core.decode FP.Core.b64 (UInt64.ofNat (FP.Core.encode FP.Core.b64 (FP.Core.round FP.Core.b64 (FP.Core.ofInt (lN S).toInt)))).toNat = _
  rw [pf_lI (by omega), a4]
  have hd := zf_dec a2 a3 (q := -(a : Int)) (by omega) (by omega)
  rw [u_tn (by omega)]
  exact hd.2
theorem zr_0 : FP.Core.decode FP.Core.b64 (FP.l2d (lN 0)).toNat = .fin false 0 (-1074) := by decide +kernel
/-- the quotient of two whole numbers -/
theorem zr_div {S P : Nat} (h1 : 1 ≤ S) (h2 : S < 2 ^ 53) (h3 : 1 ≤ P) (h4 : P < 2 ^ 53) : ∃ (a b : Nat) (c : Nat) (q : Int), a ≤ 52 ∧ b ≤ 52 ∧ 2 ^ 52 ≤ S * 2 ^ a ∧ S * 2 ^ a < 2 ^ 53 ∧ 2 ^ 52 ≤ P * 2 ^ b ∧ P * 2 ^ b < 2 ^ 53 ∧ 2 ^ 52 ≤ c ∧ c < 2 ^ 53 ∧ -1074 ≤ q ∧ q ≤ 971 ∧
    FP.Core.roundRatio FP.Core.b64 false (S * 2 ^ a) (P * 2 ^ b) ((b : Int) - a) = .fin false c q ∧ FP.ddiv (FP.l2d (lN S)) (FP.l2d (lN P)) = UInt64.ofNat (FP.Core.encode FP.Core.b64 (.fin false c q)) := by
  obtain ⟨a, a1, a2, a3, a4⟩ := zr_l2d h1 h2
  obtain ⟨b, b1, b2, b3, b4⟩ := zr_l2d h3 h4
  obtain ⟨c, q, c1, c2, c3, c4, c5⟩ := zf_fin (e := (b : Int) - a) a2 a3 b2 b3 (by omega) (by omega)
  refine ⟨a, b, c, q, a1, b1, a2, a3, b2, b3, c1, c2, c3, c4, c5, ?_⟩
  show UInt64.ofNat (FP.Core.encode FP.Core.b64 (FP.Core.quotient FP.Core.b64 (FP.Core.decode FP.Core.b64 (FP.l2d (lN S)).toNat) (FP.Core.decode FP.Core.b64 (FP.l2d (lN P)).toNat))) = _
  rw [a4, b4]
  have e : FP.Core.quotient FP.Core.b64 (.fin false (S * 2 ^ a) (-(a : Int))) (.fin false (P * 2 ^ b) (-(b : Int))) = .fin false c q := by
    show (if P * 2 ^ b = 0 then _ else FP.Core.roundRatio FP.Core.b64 (false != false) (S * 2 ^ a) (P * 2 ^ b) (-(a : Int) - -(b : Int))) = _
    rw [if_neg (by omega), show (-(a : Int) - -(b : Int)) = (b : Int) - a from by omega]
    exact c5
  rw [e]
theorem zr_div0 {P : Nat} (h3 : 1 ≤ P) (h4 : P < 2 ^ 53) : FP.ddiv (FP.l2d (lN 0)) (FP.l2d (lN P)) = 0 := by
  obtain ⟨b, b1, b2, b3, b4⟩ := zr_l2d h3 h4
  show UInt64.ofNat (FP.Core.encode FP.Core.b64 (FP.Core.quotient FP.Core.b64 (FP.Core.decode FP.Core.b64 (FP.l2d (lN 0)).toNat) (FP.Core.decode FP.Core.b64 (FP.l2d (lN P)).toNat))) = _
  rw [zr_0, b4]
  have e : FP.Core.quotient FP.Core.b64 (.fin false 0 (-1074)) (.fin false (P * 2 ^ b) (-(b : Int))) = .fin false 0 (-1074) := by
    show (if P * 2 ^ b = 0 then _ else FP.Core.roundRatio FP.Core.b64 (false != false) 0 (P * 2 ^ b) (-1074 - -(b : Int))) = _
    rw [if_neg (by omega)]
    unfold FP.Core.roundRatio
    rw [if_pos rfl, zf_k.1]; rfl
  rw [e]
  decide +kernel
/-- both ways to the same bits -/
theorem zr_same {S P S2 P2 : Nat} (h2 : S < 2 ^ 53) (h3 : 1 ≤ P) (h4 : P < 2 ^ 53) (g2 : S2 < 2 ^ 53) (g3 : 1 ≤ P2) (g4 : P2 < 2 ^ 53) (h : S * P2 = S2 * P) : FP.ddiv (FP.l2d (lN S)) (FP.l2d (lN P)) = FP.ddiv (FP.l2d (lN S2)) (FP.l2d (lN P2)) := by
  by_cases z : S = 0
  · subst z
    have z2 : S2 = 0 := by
      rw [Nat.zero_mul] at h
      rcases Nat.mul_eq_zero.mp h.symm with z | z
      · exact z
      · omega
    subst z2
    rw [zr_div0 h3 h4, zr_div0 g3 g4]
  · have z2 : ¬ S2 = 0 := by
      intro z2; subst z2
      rw [Nat.zero_mul] at h
      rcases Nat.mul_eq_zero.mp h with y | y <;> omega
    obtain ⟨a, b, c, q, a1, b1, a2, a3, b2, b3, c1, c2, c3, c4, c5, c6⟩ := zr_div (show 1 ≤ S by omega) h2 h3 h4
    obtain ⟨a', b', c', q', a1', b1', a2', a3', b2', b3', c1', c2', c3', c4', c5', c6'⟩ := zr_div (show 1 ≤ S2 by omega) g2 g3 g4
    have key : FP.Core.roundRatio FP.Core.b64 false (S * 2 ^ a) (P * 2 ^ b) ((b : Int) - a) = FP.Core.roundRatio FP.Core.b64 false (S2 * 2 ^ a') (P2 * 2 ^ b') ((b' : Int) - a') := by
      have m1 : S * 2 ^ a * (P2 * 2 ^ b') = S * P2 * 2 ^ (a + b') := by rw [Nat.mul_mul_mul_comm, ← Nat.pow_add]
      have m2 : S2 * 2 ^ a' * (P * 2 ^ b) = S2 * P * 2 ^ (a' + b) := by rw [Nat.mul_mul_mul_comm, ← Nat.pow_add]
      by_cases hd : a' + b ≤ a + b'
      · refine zf_same (d := a + b' - (a' + b)) a2 a3 b2 b3 a2' a3' b2' b3' (by omega) (by omega) (by omega) (by omega) (by omega) ?_
        rw [m1, m2, h, Nat.mul_assoc (S2 * P), ← Nat.pow_add]
        congr 2; omega
      · refine (zf_same (d := a' + b - (a + b')) a2' a3' b2' b3' a2 a3 b2 b3 (by omega) (by omega) (by omega) (by omega) (by omega) ?_).symm
        rw [m1, m2, h, Nat.mul_assoc (S2 * P), ← Nat.pow_add]
        congr 2; omega
    rw [c5, c5'] at key
    rw [c6, c6', key]
theorem zr_fin {S P : Nat} (h2 : S < 2 ^ 53) (h3 : 1 ≤ P) (h4 : P < 2 ^ 53) : (FP.ddiv (FP.l2d (lN S)) (FP.l2d (lN P))).toNat < 2047 * 2 ^ 52 ∧ ∃ c q, FP.Core.decode FP.Core.b64 (FP.ddiv (FP.l2d (lN S)) (FP.l2d (lN P))).toNat = .fin false c q := by
  by_cases z : S = 0
  · subst z
    rw [zr_div0 h3 h4]
    exact ⟨by decide, 0, -1074, by decide +kernel⟩
  · obtain ⟨a, b, c, q, a1, b1, a2, a3, b2, b3, c1, c2, c3, c4, c5, c6⟩ := zr_div (show 1 ≤ S by omega) h2 h3 h4
    have hd := zf_dec c1 c2 c3 c4
    rw [c6, u_tn (by omega)]
    exact ⟨hd.1, c, q, hd.2⟩
theorem zr_n64 {x : UInt64} (h : x.toNat < 2047 * 2 ^ 52) : vf_n64 x := by
  unfold vf_n64
  rw [UInt64.le_iff_toNat_le, UInt64.toNat_and]
  exact Nat.le_trans Nat.and_le_left (by show x.toNat ≤ 9218868437227405312; omega)
theorem zr_self {x : UInt64} {c : Nat} {q : Int} (h : FP.Core.decode FP.Core.b64 x.toNat = .fin false c q) : Op.cmpValue (FP.dcmp x x) CmpOp.l = 0 := by
  have e : FP.dcmp x x = some .eq := by
    show FP.Core.order (FP.Core.decode FP.Core.b64 x.toNat) (FP.Core.decode FP.Core.b64 x.toNat) = _
    rw [h]
    show some (compare _ _) = _
    rw [Int.compare_eq_eq.mpr rfl]
  rw [e]; decide
theorem zr_pos {P : Nat} (h3 : 1 ≤ P) (h4 : P < 2 ^ 53) : ¬ Op.cmpValue (FP.dcmp (FP.l2d (lN P)) FP.dconst0) CmpOp.l ≤ 0 := by
  obtain ⟨b, b1, b2, b3, b4⟩ := zr_l2d h3 h4
  have e : FP.dcmp (FP.l2d (lN P)) FP.dconst0 = some .gt := by
    show FP.Core.order (FP.Core.decode FP.Core.b64 (FP.l2d (lN P)).toNat) (FP.Core.decode FP.Core.b64 FP.dconst0.toNat) = _
    rw [b4, show FP.Core.decode FP.Core.b64 FP.dconst0.toNat = .fin false 0 (-1074) from by decide +kernel]
    show some (compare _ _) = _
    rw [Int.compare_eq_gt.mpr]
    show (FP.Core.signed false (FP.Core.inUnits 0 _ _)) < FP.Core.signed false (FP.Core.inUnits (P * 2 ^ b) _ _)
    unfold FP.Core.signed FP.Core.inUnits
    have hp := Nat.two_pow_pos (-(b : Int) - min (-(b : Int)) (-1074)).toNat
    have hm : 1 * 1 ≤ P * 2 ^ b * 2 ^ (-(b : Int) - min (-(b : Int)) (-1074)).toNat := Nat.mul_le_mul (by omega) hp
    rw [Nat.zero_mul]
    simp only [Bool.false_eq_true, if_false]
    exact Int.ofNat_lt.mpr (by omega)
  rw [e]; decide
theorem zl_nanX {fn qn : Nat} {u d lw uw an : Nat → Int64} {mu md tr : Nat → Int32} (hR : rl fn qn u d lw uw an mu md tr) (q : Int32) : ¬ kvX0_isQuestion qn q = 0 → vf_n64 (FP.ddiv (FP.l2d (kvX0_sumOfBoth lw uw an qn q q)) (FP.l2d (kvX0_allBut d fn (-1 : Int32)))) := by
  intro h
  obtain ⟨i, hi, rfl⟩ := zt_isQ hR.2.1 h
  obtain ⟨U, D, hr, h1, h2, h3, h4, h5, h6⟩ := zg_R hR
  have h7 := (h5 i i hi hi).1
  rw [h4, (h5 i i hi hi).2.1]
  exact zr_n64 (zr_fin (by omega) h1 (by omega)).1
theorem zr_parts {fn qn : Nat} {u d lw uw an : Nat → Int64} {mu md tr : Nat → Int32} (hR : rl fn qn u d lw uw an mu md tr) {i : Nat} (hi : i < qn) : ∃ S P S2 P2 : Nat, S ≤ P ∧ 1 ≤ P ∧ P < 2 ^ 53 ∧ S2 < 2 ^ 53 ∧ 1 ≤ P2 ∧ P2 < 2 ^ 53 ∧ S * P2 = S2 * P ∧ kvX0_sumOfBoth lw uw an qn (nI i) (nI i) = lN S ∧ kvX0_allBut d fn (-1 : Int32) = lN P ∧ kvX1_part (kvX1_sum mu md tr fn i) (kvX1_all md fn) 0 = lN S2 ∧ kvX1_part (kvX1_sum mu md tr fn i) (kvX1_all md fn) 1 = lN P2 := by
  obtain ⟨U, D, hr, h1, h2, h3, h4, h5, h6⟩ := zg_R hR
  have h7 := (h5 i i hi hi).1
  obtain ⟨g, g1, g2, g3, g4, g5⟩ := zg_main (a := zs_S U D tr fn i i) (b := zs_P D fn) (by omega) (by omega) h1
  have d1 : zs_S U D tr fn i i / g ≤ zs_S U D tr fn i i := Nat.div_le_self _ _
  have d2 : zs_P D fn / g ≤ zs_P D fn := Nat.div_le_self _ _
  have d3 : 1 ≤ zs_P D fn / g := (Nat.le_div_iff_mul_le (by omega)).mpr (by rw [Nat.one_mul]; exact Nat.le_of_dvd (by omega) g4)
  have d4 : zs_S U D tr fn i i * (zs_P D fn / g) = zs_S U D tr fn i i / g * zs_P D fn := by
    obtain ⟨x, hx⟩ := g3
    obtain ⟨y, hy⟩ := g4
    rw [hx, hy, Nat.mul_div_cancel_left _ (by omega), Nat.mul_div_cancel_left _ (by omega), Nat.mul_assoc, Nat.mul_left_comm]
  have e1 : kl_gcd (kl_abs (kvX1_sum mu md tr fn i)) (kvX1_all md fn) 100 = (lN g, 0) := by
    unfold kvX1_all
    rw [(h6 i hi).1, h3, zg_abs (by omega), g5]
  refine ⟨_, _, zs_S U D tr fn i i / g, zs_P D fn / g, h7, h1, by omega, by omega, d3, by omega, d4, (h5 i i hi hi).2.1, h4, ?_, ?_⟩
  · unfold kvX1_part
    rw [if_pos rfl, e1, (h6 i hi).1]
    exact zg_div (by omega) (by omega)
  · unfold kvX1_part
    rw [if_neg (by decide), e1]
    unfold kvX1_all
    rw [h3]
    exact zg_div (by omega) (by omega)
theorem zl_nanM {fn qn : Nat} {u d lw uw an : Nat → Int64} {mu md tr : Nat → Int32} (hR : rl fn qn u d lw uw an mu md tr) (q : Int32) : ¬ kvX1_isQuestion qn q = 0 → vf_n64 (FP.ddiv (FP.l2d (kvX1_part (kvX1_sum mu md tr fn q.toNatClampNeg) (kvX1_all md fn) 0)) (FP.l2d (kvX1_part (kvX1_sum mu md tr fn q.toNatClampNeg) (kvX1_all md fn) 1))) := by
  intro h
  have hq := hR.2.1
  obtain ⟨i, hi, rfl⟩ := zt_isQ hq h
  rw [nI_clamp (by omega)]
  obtain ⟨S, P, S2, P2, b1, b2, b3, b4, b5, b6, b7, b8, b9, b10, b11⟩ := zr_parts hR hi
  rw [b10, b11]
  exact zr_n64 (zr_fin b4 b5 b6).1
theorem zl_real {fn qn : Nat} {u d lw uw an : Nat → Int64} {mu md tr : Nat → Int32} (hR : rl fn qn u d lw uw an mu md tr) (q : Int32) : Op.cmpValue (FP.dcmp (kvX0_real d lw uw an fn qn q) (kvX1_real mu md tr fn qn q)) CmpOp.l = 0 := by
  have hq := hR.2.1
  unfold kvX0_real kvX1_real
  have hQ : kvX1_isQuestion qn q = kvX0_isQuestion qn q := rfl
  rw [hQ]
  by_cases e : kvX0_isQuestion qn q = 0
  · rw [if_pos e, if_pos e]; decide +kernel
  rw [if_neg e, if_neg e]
  obtain ⟨i, hi, rfl⟩ := zt_isQ hq e
  rw [nI_clamp (by omega)]
  obtain ⟨S, P, S2, P2, b1, b2, b3, b4, b5, b6, b7, b8, b9, b10, b11⟩ := zr_parts hR hi
  rw [b8, b9, b10, b11, if_neg (zr_pos b2 b3), ← zr_same (by omega) b2 b3 b4 b5 b6 b7]
  obtain ⟨c, q, h⟩ := (zr_fin (S := S) (by omega) b2 b3).2
  exact zr_self h
