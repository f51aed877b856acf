/-! Towards Long.bitCount: numbers cut into fields of w bits. -/
theorem land_cat {w Y r M m : Nat} (hr : r < 2 ^ w) (hm : m < 2 ^ w) : (2 ^ w * Y + r) &&& (2 ^ w * M + m) = 2 ^ w * (Y &&& M) + (r &&& m) := by
  have hrm : r &&& m < 2 ^ w := Nat.lt_of_le_of_lt Nat.and_le_left hr
  apply Nat.eq_of_testBit_eq
  intro i
  rw [Nat.testBit_and, Nat.testBit_two_pow_mul_add _ hr, Nat.testBit_two_pow_mul_add _ hm, Nat.testBit_two_pow_mul_add _ hrm]
  by_cases c : i < w
  · rw [if_pos c, if_pos c, if_pos c, Nat.testBit_and]
  · rw [if_neg c, if_neg c, if_neg c, Nat.testBit_and]
/-- the number of set bits among the lowest n -/
def pcN : Nat → Nat → Nat
  | 0, _ => 0
  | n + 1, x => x % 2 + pcN n (x / 2)
/-- n fields of 8 bits, each the number of set bits of x's field -/
def pcB : Nat → Nat → Nat
  | 0, _ => 0
  | n + 1, x => pcN 8 (x % 256) + 256 * pcB n (x / 256)
theorem pcN_8 : ∀ x, x < 256 → pcN 8 x = (let a := (x &&& 85) + (x / 2 &&& 85); let b := (a &&& 51) + (a / 4 &&& 51); (b + b / 16) &&& 15) := by decide +kernel
theorem pcN_le : ∀ n x, pcN n x ≤ n := by
  intro n
  induction n with
  | zero => intro x; exact Nat.le_refl _
  | succ n ih => intro x; have := ih (x / 2); unfold pcN; omega
theorem pcN_add : ∀ (m n x : Nat), pcN (m + n) x = pcN m x + pcN n (x / 2 ^ m) := by
  intro m
  induction m with
  | zero => intro n x; rw [Nat.zero_add, Nat.pow_zero, Nat.div_one]; unfold pcN; omega
  | succ m ih =>
    intro n x
    rw [show m + 1 + n = (m + n) + 1 by omega]
    show x % 2 + pcN (m + n) (x / 2) = (x % 2 + pcN m (x / 2)) + _
    rw [ih n (x / 2), Nat.div_div_eq_div_mul, show 2 * 2 ^ m = 2 ^ (m + 1) by rw [Nat.pow_succ, Nat.mul_comm]]
    omega
