/-! shown, floor -/
def sunN (h : Nat) : Nat := 6 - (if h < 12 then 12 - h else h - 12)
def depN (h r : Nat) : Nat := 4 * (16 - r) / sunN h
def driZ (h d : Nat) : Int := ((h : Int) - 12) * d / 8
def comB (d col : Int) (h c : Nat) : Bool := decide ((depN h (c / 16) : Int) = d) && decide (((c % 16 : Nat) : Int) + driZ h (depN h (c / 16)) = col)
def shwF (own : Nat → Nat) (pd : Nat → Nat → Nat) (C : Nat → Bool) : Nat → Nat
  | 0 => 0
  | k + 1 => shwF own pd C k ||| (if C k then 2 ^ (pd (own k) 0) else 0)
def shwN (own : Nat → Nat) (pd : Nat → Nat → Nat) (d col : Int32) (h : Nat) : Nat := shwF own pd (comB d.toInt col.toInt h) 256
theorem sh_one : ∀ k, k < 8 → (1 : Int32) <<< (nI k &&& 31) = nI (2 ^ k) := by decide +kernel
theorem iI_p {z : Int} {p : Int32} (hz : -2147483648 ≤ z ∧ z < 2147483648) : (iI z = p) = (z = p.toInt) := by
  have e : p = iI p.toInt := iI_self p
  have r := fb_rng p
  refine propext ⟨fun h => ?_, fun h => ?_⟩
  · rw [← h, iI_toInt hz]
  · rw [h, ← e]
theorem dep_le {h r : Nat} : depN h r ≤ 64 := by
  unfold depN
  have : 4 * (16 - r) / sunN h ≤ 4 * (16 - r) := Nat.div_le_self _ _
  omega
