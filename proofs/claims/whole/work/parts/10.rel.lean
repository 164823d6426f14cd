/-! what ties the two objects: the odds, the weights, the questions' truths -/
def wt (U D : Nat → Nat) (s : Nat) : Nat → Nat → Nat
  | 0, _ => 1
  | i + 1, j => wt U D s i j * (if j.testBit i then U (s + i) else D (s + i) - U (s + i))
def rq (fn qn : Nat) (an : Nat → Int64) (tr : Nat → Int32) : Prop :=
  (∀ q b k : Nat, q < qn → b < 64 → k < 64 → ((an (q * 64 + b)).toBitVec.getLsbD k = true ↔ tr (4096 * q + (64 * b + k)) = 1)) ∧
  (∀ q w : Nat, q < qn → w < 4096 → tr (4096 * q + w) = tr (4096 * q + w % 2 ^ fn))
def ro (fn : Nat) (U D : Nat → Nat) (u d lw uw : Nat → Int64) (mu md : Nat → Int32) : Prop :=
  (∀ i : Nat, i < fn → U i ≤ D i ∧ 1 ≤ D i ∧ D i ≤ 8 ∧ mu i = nI (U i) ∧ md i = nI (D i)) ∧ (∀ i : Nat, fn ≤ i → U i = 0 ∧ D i = 1) ∧
  (∀ i : Nat, i < 12 → u i = lN (U i) ∧ d i = lN (D i)) ∧ (∀ j : Nat, j < 64 → lw j = lN (wt U D 0 6 j) ∧ uw j = lN (wt U D 6 6 j))
def rl (fn qn : Nat) (u d lw uw an : Nat → Int64) (mu md tr : Nat → Int32) : Prop :=
  fn ≤ 12 ∧ qn ≤ 40 ∧ oo_01 tr ∧ rq fn qn an tr ∧ ∃ U D : Nat → Nat, ro fn U D u d lw uw mu md
/-- what the class's static row holds -/
def wo_W (i : Nat) : Int64 := match i with
  | 0 => 6148914691236517205
  | 1 => 3689348814741910323
  | 2 => 1085102592571150095
  | 3 => 71777214294589695
  | 4 => 281470681808895
  | _ => 4294967295
