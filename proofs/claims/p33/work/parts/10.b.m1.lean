/-! the model's small methods -/
theorem lc_end : (256 : Int32) ≤ nI 256 := by decide
theorem ex_z (p : Int32) : ∃ z : Int, (-2147483648 ≤ z ∧ z < 2147483648) ∧ p = iI z := ⟨p.toInt, fb_rng p, iI_self p⟩
def lineB (z : Int) : Bool := decide ((0 ≤ z ∧ z ≤ 14) ∨ (16 ≤ z ∧ z ≤ 30))
/-- beyond a line -/
def byd (c line : Nat) : Bool := if line < 16 then decide (line < c / 16) else decide (line - 16 < c % 16)
theorem nrem {c : Nat} (h : c < 256) : nI c - nI c / 16 * 16 = nI (c % 16) := by
  have e : (16 : Int32) = nI 16 := rfl
  rw [e]
  exact pk_rem (by omega) (by omega) (by omega)
theorem ndiv {c : Nat} (h : c < 256) : nI c / 16 = nI (c / 16) := by
  have e : (16 : Int32) = nI 16 := rfl
  rw [e]
  exact pk_div (by omega) (by omega) (by omega)
/-- what stands in a loop over 256 cells -/
theorem lc_in {k : Nat} (h : k < 256) : vp_in (nI k) 256 := vp_in_nI h (by omega)
theorem lc_N {k : Nat} (h : k < 2147483648) : (nI k).toNatClampNeg = k := nI_clamp h
theorem lc_ge {k : Nat} (h : k < 256) : ¬ (256 : Int32) ≤ nI k := by
  rw [show (256 : Int32) = nI 256 from rfl, nI_leI (by omega) (by omega)]; omega
theorem upd_at (f : Nat → Int32) (k : Nat) (x : Int32) : upd f k x k = x := pk_us
theorem upd_ne (f : Nat → Int32) {k j : Nat} (x : Int32) (h : j ≠ k) : upd f k x j = f j := pk_un h
/-- an array of truths, filled up to k -/
def fillB (S : Nat → Bool) (k : Nat) (f : Nat → Int32) : Prop := ∀ j, j < k → f j = bI (S j)
theorem fillB_0 (S : Nat → Bool) (f : Nat → Int32) : fillB S 0 f := fun j h => absurd h (Nat.not_lt_zero j)
theorem fillB_upd {S : Nat → Bool} {k : Nat} {f : Nat → Int32} (h : fillB S k f) : fillB S (k + 1) (upd f k (bI (S k))) := fun j hj => by
  by_cases e : j = k
  · rw [e, upd_at]
  · rw [upd_ne _ _ e]; exact h j (by omega)
theorem cnt_bI (S : Nat → Bool) (k : Nat) : nI (fb_ct S k) + bI (S k) = nI (fb_ct S (k + 1)) := by
  rw [fb_ct_succ]
  cases S k
  · simp [bI]
  · simp only [bI, if_true]; exact nI_1 _
