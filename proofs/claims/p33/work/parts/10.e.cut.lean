/-- where runs begin -/
def stB (f : Nat → Bool) (j : Nat) : Bool := f j && !(decide (0 < j) && f (j - 1))
def ixN (rows : Bool) (k j : Nat) : Nat := if rows then 16 * k + j else 16 * j + k
noncomputable def tB (S : Nat → Bool) (rows : Bool) : Bool := dP (∀ k, k < 16 → fb_ct (stB (fun j => S (ixN rows k j))) 16 < 2)
noncomputable def tBk (S : Nat → Bool) (rows : Bool) (n : Nat) : Bool := dP (∀ k, k < n → fb_ct (stB (fun j => S (ixN rows k j))) 16 < 2)
theorem ix_lt {rows : Bool} {k j : Nat} (hk : k < 16) (hj : j < 16) : ixN rows k j < 256 := by unfold ixN; split <;> omega
theorem ix_I (rows : Bool) (k j : Nat) : (if rows then (16 : Int32) * nI k + nI j else 16 * nI j + nI k) = nI (ixN rows k j) := by
  unfold ixN
  cases rows
  · simp only [Bool.false_eq_true, if_false]; rw [show (16 : Int32) = nI 16 from rfl, pk_mul, nI_add]
  · simp only [if_true]; rw [show (16 : Int32) = nI 16 from rfl, pk_mul, nI_add]
theorem tBk_succ (S : Nat → Bool) (rows : Bool) (n : Nat) : tBk S rows (n + 1) = (tBk S rows n && decide (fb_ct (stB (fun j => S (ixN rows n j))) 16 < 2)) := by
  unfold tBk
  by_cases h1 : ∀ k, k < n → fb_ct (stB (fun j => S (ixN rows k j))) 16 < 2
  · by_cases h2 : fb_ct (stB (fun j => S (ixN rows n j))) 16 < 2
    · rw [dP_t h1, decide_eq_true h2]
      refine dP_t (fun k hk => ?_)
      rcases Nat.lt_or_ge k n with q | q
      · exact h1 k q
      · have : k = n := by omega
        subst this; exact h2
    · rw [dP_t h1, decide_eq_false h2]
      exact dP_f (fun z => h2 (z n (by omega)))
  · rw [dP_f h1]
    exact dP_f (fun z => h1 (fun k hk => z k (by omega)))
/-- a square of cells, by its upper left one -/
def sqN (S : Nat → Bool) (r q : Nat) : Bool := decide (r < 15) && decide (q < 15) && S (16 * r + q) && S (16 * r + q + 1) && S (16 * r + 16 + q) && S (16 * r + 16 + q + 1)
def sqI (S : Nat → Bool) (a b : Int) : Bool := decide (0 ≤ a) && decide (0 ≤ b) && sqN S a.toNat b.toNat
