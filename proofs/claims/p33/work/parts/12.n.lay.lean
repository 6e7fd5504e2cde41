/-! layAll -/
theorem brlt2 {a b : Nat} {A B : Prop} (ha : a < 2147483648) (hb : b < 2147483648) (h1 : a < b → A) (h2 : ¬ a < b → B) : (nI a < nI b → A) ∧ (¬ nI a < nI b → B) := by
  have e : (nI a < nI b) = (a < b) := by
    rw [fa_lt, nI_toInt ha, nI_toInt hb]; exact propext (by omega)
  rw [e]; exact ⟨h1, h2⟩
theorem brle2 {a b : Nat} {A B : Prop} (ha : a < 2147483648) (hb : b < 2147483648) (h1 : a ≤ b → A) (h2 : ¬ a ≤ b → B) : (nI a ≤ nI b → A) ∧ (¬ nI a ≤ nI b → B) := by
  rw [ge_lit ha hb]; exact ⟨h1, h2⟩
theorem breq2 {a b : Nat} {A B : Prop} (ha : a < 2147483648) (hb : b < 2147483648) (h1 : a = b → A) (h2 : ¬ a = b → B) : (nI a = nI b → A) ∧ (¬ nI a = nI b → B) := by
  rw [nI_inj ha hb]; exact ⟨h1, h2⟩
