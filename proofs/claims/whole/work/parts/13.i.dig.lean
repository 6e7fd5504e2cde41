/-! bits by digits -/
theorem andB (w a b c d : Nat) (hb : b < 2 ^ w) (hd : d < 2 ^ w) : (2 ^ w * a + b) &&& (2 ^ w * c + d) = 2 ^ w * (a &&& c) + (b &&& d) := by
  refine Nat.eq_of_testBit_eq fun j => ?_
  rw [Nat.testBit_and, Nat.testBit_two_pow_mul_add _ hb, Nat.testBit_two_pow_mul_add _ hd, Nat.testBit_two_pow_mul_add _ (Nat.and_lt_two_pow _ hd)]
  split <;> rw [Nat.testBit_and]
/-- the first step, on digits of 4 -/
theorem dig1 (q m d : Nat) (hd : d < 4) : (4 * q + d) / 2 &&& (4 * m + 1) = 4 * (q / 2 &&& m) + d / 2 := by
  have e : (4 * q + d) / 2 = 2 ^ 2 * (q / 2) + (2 * (q % 2) + d / 2) := by omega
  have e2 : (4 * m + 1) = 2 ^ 2 * m + 1 := by omega
  rw [e, e2, andB 2 _ _ _ _ (by omega) (by omega), Nat.and_one_is_mod]
  omega
