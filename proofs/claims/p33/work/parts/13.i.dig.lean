/-! bits by digits -/
theorem andB (w a b c d : Nat) (hb : b < 2 ^ w) (hd : d < 2 ^ w) : (2 ^ w * a + b) &&& (2 ^ w * c + d) = 2 ^ w * (a &&& c) + (b &&& d) := by
  refine Nat.eq_of_testBit_eq fun j => ?_
  rw [Nat.testBit_and, Nat.testBit_two_pow_mul_add _ hb, Nat.testBit_two_pow_mul_add _ hd, Nat.testBit_two_pow_mul_add _ (Nat.and_lt_two_pow _ hd)]
  split <;> rw [Nat.testBit_and]
/-- the first step, on digits of 4 -/
theorem dig1 (q m d : Nat) (hd : d < 4) : (4 * q + d) / 2 &&& (4 * m + 1) = 4 * (q / 2 &&& m) + d / 2 := by
  have e : (4 * q + d) / 2 = 2 ^ 2 * (q / 2) + (2 * (q % 2) + d / 2) := by omega
  have e2 : (4 * m + 1) = 2 ^ 2 * m + 1 := by omega
  rw [e, e2, andB 2 _ _ _ _ (by omega) (by omega), Nat.and_one_is_mod]
  omega
def ma4 : Nat → Nat
  | 0 => 0
  | k + 1 => 4 * ma4 k + 1
/-- two bits each -/
def pD2 : Nat → Nat → Nat
  | 0, _ => 0
  | k + 1, x => 4 * pD2 k (x / 4) + (x % 4 - x % 4 / 2)
theorem step1 : ∀ (k x : Nat), x < 4 ^ k → x - (x / 2 &&& ma4 k) = pD2 k x ∧ (x / 2 &&& ma4 k) ≤ x
  | 0, x, h => by
    have : x = 0 := by rw [Nat.pow_zero] at h; omega
    subst this
    exact ⟨rfl, Nat.le_refl 0⟩
  | k + 1, x, h => by
    rw [Nat.pow_succ] at h
    obtain ⟨h1, h2⟩ := step1 k (x / 4) (by omega)
    have e : x = 4 * (x / 4) + x % 4 := by omega
    have d := dig1 (x / 4) (ma4 k) (x % 4) (by omega)
    rw [← e] at d
    rw [ma4, d, pD2, ← h1]
    omega
theorem dig2 (q m d1 d0 : Nat) (h1 : d1 ≤ 2) (h0 : d0 ≤ 2) : ((16 * q + (4 * d1 + d0)) &&& (16 * m + 3)) + ((16 * q + (4 * d1 + d0)) / 4 &&& (16 * m + 3)) = 16 * ((q &&& m) + (q / 4 &&& m)) + (d0 + d1) := by
  have e : (16 * q + (4 * d1 + d0)) / 4 = 2 ^ 4 * (q / 4) + (4 * (q % 4) + d1) := by omega
  have e1 : 16 * q + (4 * d1 + d0) = 2 ^ 4 * q + (4 * d1 + d0) := by omega
  have e2 : 16 * m + 3 = 2 ^ 4 * m + 3 := by omega
  rw [e, e1, e2, andB 4 _ _ _ _ (by omega) (by omega), andB 4 _ _ _ _ (by omega) (by omega)]
  have f : ∀ x, x &&& 3 = x % 4 := fun x => Nat.and_two_pow_sub_one_eq_mod x 2
  rw [f, f]
  omega
theorem dig3 (q m e1 e0 : Nat) (h1 : e1 ≤ 4) (h0 : e0 ≤ 4) : ((256 * q + (16 * e1 + e0)) + (256 * q + (16 * e1 + e0)) / 16) &&& (256 * m + 15) = 256 * ((q + q / 16) &&& m) + (e0 + e1) ∨ ¬ q % 16 ≤ 4 := by
  by_cases g : q % 16 ≤ 4
  · left
    have e : (256 * q + (16 * e1 + e0)) + (256 * q + (16 * e1 + e0)) / 16 = 2 ^ 8 * (q + q / 16) + (16 * (e1 + q % 16) + (e0 + e1)) := by omega
    have e2 : 256 * m + 15 = 2 ^ 8 * m + 15 := by omega
    rw [e, e2, andB 8 _ _ _ _ (by omega) (by omega)]
    have f : ∀ x, x &&& 15 = x % 16 := fun x => Nat.and_two_pow_sub_one_eq_mod x 4
    rw [f]
    omega
  · exact Or.inr g
