/-! the model's search: isOne -/
theorem ct_add {V : Nat → Bool} {d n : Nat} (hd : d < n) (hV : V d = false) : fb_ct (fun k => V k || decide (k = d)) n = fb_ct V n + 1 := by
  have h := fb_ct_upd V true hd
  rw [hV] at h
  simp only [Bool.false_eq_true, if_false, if_true, Nat.add_zero] at h
  rw [← h]
  exact fb_ct_cong (fun k _ => by by_cases e : k = d <;> simp [e])
theorem ct_lt {V : Nat → Bool} {d n : Nat} (hd : d < n) (hV : V d = false) : fb_ct V n < n := by
  have h := ct_add hd hV
  have h2 := fb_ct_le (fun k => V k || decide (k = d)) n
  omega
/-- what holds all through the search -/
def DI (S V : Nat → Bool) (a hi : Nat) (pile seen : Nat → Int32) : Prop := V a = true ∧ (∀ c, c < 256 → V c = true → S c = true) ∧ (∀ c, c < 256 → V c = true → Rch S a c) ∧ hi ≤ fb_ct V 256 ∧ (∀ i, i < hi → ∃ c, c < 256 ∧ pile i = nI c ∧ V c = true) ∧ fillB V 256 seen
def FRd (S V : Nat → Bool) (hi : Nat) (pile : Nat → Int32) (c : Nat) : Prop := (∃ i, i < hi ∧ pile i = nI c) ∨ ∀ d, d < 256 → adj c d → S d = true → V d = true
def dfsS (S : Nat → Bool) (a : Nat) (s : Int32 × Int32 × Int32 × (Nat → Int32) × (Nat → Int32)) : Prop := ∃ (V : Nat → Bool) (hi : Nat) (seen pile : Nat → Int32), s = (nI hi, nI (fb_ct S 256), nI (fb_ct V 256), seen, pile) ∧ DI S V a hi pile seen ∧ ∀ c, c < 256 → V c = true → FRd S V hi pile c
