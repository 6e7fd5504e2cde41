/-! bits by digits: the whole chain -/
def c4 (d : Nat) : Nat := d - d / 2
def ma16 : Nat → Nat
  | 0 => 0
  | k + 1 => 16 * ma16 k + 3
def ma256 : Nat → Nat
  | 0 => 0
  | k + 1 => 256 * ma256 k + 15
def pD4 : Nat → Nat → Nat
  | 0, _ => 0
  | k + 1, x => 16 * pD4 k (x / 16) + (c4 (x % 4) + c4 (x / 4 % 4))
def pD8 : Nat → Nat → Nat
  | 0, _ => 0
  | k + 1, x => 256 * pD8 k (x / 256) + (c4 (x % 4) + c4 (x / 4 % 4) + (c4 (x / 16 % 4) + c4 (x / 64 % 4)))
theorem c4_le (x : Nat) : c4 (x % 4) ≤ 2 := by unfold c4; omega
theorem step2 : ∀ (k x : Nat), (pD2 (2 * k) x &&& ma16 k) + (pD2 (2 * k) x / 4 &&& ma16 k) = pD4 k x
  | 0, x => by
    show (0 &&& 0) + (0 / 4 &&& 0) = 0
    decide
  | k + 1, x => by
    have h := step2 k (x / 16)
    have e : pD2 (2 * (k + 1)) x = 16 * pD2 (2 * k) (x / 16) + (4 * c4 (x / 4 % 4) + c4 (x % 4)) := by
      show 4 * (4 * pD2 (2 * k) (x / 4 / 4) + (x / 4 % 4 - x / 4 % 4 / 2)) + (x % 4 - x % 4 / 2) = _
      rw [show x / 4 / 4 = x / 16 by omega]
      unfold c4
      omega
    have d := dig2 (pD2 (2 * k) (x / 16)) (ma16 k) (c4 (x / 4 % 4)) (c4 (x % 4)) (c4_le _) (c4_le _)
    rw [e, ma16, d, h, pD4]
theorem pD4_mod (k x : Nat) : pD4 k x % 16 ≤ 4 := by
  cases k with
  | zero => exact Nat.zero_le 4
  | succ k =>
    rw [pD4]
    have a := c4_le x
    have b := c4_le (x / 4)
    omega
theorem step3 : ∀ (k x : Nat), (pD4 (2 * k) x + pD4 (2 * k) x / 16) &&& ma256 k = pD8 k x
  | 0, x => by
    show (0 + 0 / 16) &&& 0 = 0
    decide
  | k + 1, x => by
    have h := step3 k (x / 256)
    have e : pD4 (2 * (k + 1)) x = 256 * pD4 (2 * k) (x / 256) + (16 * (c4 (x / 16 % 4) + c4 (x / 64 % 4)) + (c4 (x % 4) + c4 (x / 4 % 4))) := by
      show 16 * (16 * pD4 (2 * k) (x / 16 / 16) + (c4 (x / 16 % 4) + c4 (x / 16 / 4 % 4))) + (c4 (x % 4) + c4 (x / 4 % 4)) = _
      rw [show x / 16 / 16 = x / 256 by omega, show x / 16 / 4 = x / 64 by omega]
      omega
    have a1 := c4_le x
    have a2 := c4_le (x / 4)
    have a3 := c4_le (x / 16)
    have a4 := c4_le (x / 64)
    rcases dig3 (pD4 (2 * k) (x / 256)) (ma256 k) (c4 (x / 16 % 4) + c4 (x / 64 % 4)) (c4 (x % 4) + c4 (x / 4 % 4)) (by omega) (by omega) with d | d
    · rw [e, ma256, d, h, pD8]
    · exact absurd (pD4_mod _ _) d
