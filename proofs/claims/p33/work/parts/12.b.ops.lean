/-! the model's plain calls -/
def inR (v : Int32) (a b : Nat) : Bool := decide ((a : Int) ≤ v.toInt ∧ v.toInt ≤ (b : Int))
theorem inR_t {v : Int32} {a b : Nat} (h : inR v a b = true) : ∃ k, v = nI k ∧ a ≤ k ∧ k ≤ b := by
  unfold inR at h
  rw [decide_eq_true_iff] at h
  refine ⟨v.toInt.toNat, ?_, by omega, by omega⟩
  rw [iI_nat, Int.toNat_of_nonneg (by omega)]
  exact iI_self v
theorem inR_nI {a b k : Nat} (h : k < 2147483648) : inR (nI k) a b = (decide (a ≤ k) && decide (k ≤ b)) := by
  unfold inR
  rw [nI_toInt h]
  by_cases h1 : a ≤ k <;> by_cases h2 : k ≤ b <;> simp [h1, h2]
theorem nI_inj {a b : Nat} (ha : a < 2147483648) (hb : b < 2147483648) : (nI a = nI b) = (a = b) := propext (nI_eq ha hb)
def tN (p : Int32) : Nat := p.toNatClampNeg
theorem tN_nI {a : Nat} (h : a < 2147483648) : tN (nI a) = a := nI_clamp h
def colC (n : Nat) (own : Nat → Nat) (pd : Nat → Nat → Nat) (p k : Int32) : Nat := if isP n own p then (if inR k 0 7 then (if pd (tN p) 4 = 0 then 0 else 3) else 2) else 1
def colP (pd : Nat → Nat → Nat) (q k : Nat) : Nat → Nat → Nat := if k = pd q 0 then pd else noteP (st2 pd q 0 k) q 3
theorem st2_same {pd : Nat → Nat → Nat} {q j v : Nat} (h : v = pd q j) : st2 pd q j v = pd := by
  funext a b
  unfold st2
  split
  · rename_i e; rw [e.1, e.2, h]
  · rfl
