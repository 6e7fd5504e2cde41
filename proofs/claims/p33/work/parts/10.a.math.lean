/-! numbers as whole numbers, loops that count -/
def iI (z : Int) : Int32 := Int32.ofInt z
theorem iI_nat (n : Nat) : nI n = iI (n : Int) := by
  unfold nI iI
  exact (Int32.ofInt_eq_ofNat (n := n)).symm
theorem iI_toInt {z : Int} (h : -2147483648 ≤ z ∧ z < 2147483648) : (iI z).toInt = z := Int32.toInt_ofInt_of_le h.1 h.2
theorem iI_add (a b : Int) : iI a + iI b = iI (a + b) := (Int32.ofInt_add a b).symm
theorem iI_mul (a b : Int) : iI a * iI b = iI (a * b) := (Int32.ofInt_mul a b).symm
theorem iI_sub (a b : Int) : iI a - iI b = iI (a - b) := (Int32.ofInt_sub a b).symm
theorem iI_neg (a : Int) : -iI a = iI (-a) := (Int32.ofInt_neg a).symm
theorem iI_lt {a b : Int} (ha : -2147483648 ≤ a ∧ a < 2147483648) (hb : -2147483648 ≤ b ∧ b < 2147483648) : (iI a < iI b) = (a < b) := by
  rw [fa_lt, iI_toInt ha, iI_toInt hb]
theorem iI_le {a b : Int} (ha : -2147483648 ≤ a ∧ a < 2147483648) (hb : -2147483648 ≤ b ∧ b < 2147483648) : (iI a ≤ iI b) = (a ≤ b) := by
  rw [fa_le, iI_toInt ha, iI_toInt hb]
theorem iI_eq {a b : Int} (ha : -2147483648 ≤ a ∧ a < 2147483648) (hb : -2147483648 ≤ b ∧ b < 2147483648) : (iI a = iI b) = (a = b) := by
  rw [fa_eq, iI_toInt ha, iI_toInt hb]
theorem iI_N {a : Int} (ha : -2147483648 ≤ a ∧ a < 2147483648) : (iI a).toNatClampNeg = a.toNat := by
  rw [Int32.toNatClampNeg, iI_toInt ha]
theorem iI_in {a : Int} {n : Nat} (ha : -2147483648 ≤ a ∧ a < 2147483648) : vp_in (iI a) n = (0 ≤ a ∧ a < n) := by
  rw [vp_in_iff, iI_toInt ha]
theorem iI_div {a d : Int} (ha : 0 ≤ a ∧ a < 2147483648) (hd : 0 < d ∧ d < 2147483648) : iI a / iI d = iI (a / d) := by
  obtain ⟨x, rfl⟩ := Int.eq_ofNat_of_zero_le ha.1
  obtain ⟨y, rfl⟩ := Int.eq_ofNat_of_zero_le (Int.le_of_lt hd.1)
  have h := pk_div (a := x) (d := y) (by omega) (by omega) (by omega)
  rw [iI_nat, iI_nat, iI_nat] at h
  rw [h]
  rfl
theorem iI_lit (n : Nat) : (OfNat.ofNat n : Int32) = iI (OfNat.ofNat n : Int) := by
  rw [fa_lit, iI_nat]; rfl
theorem iI_self (x : Int32) : x = iI x.toInt := (Int32.ofInt_toInt x).symm
/-- a loop that counts up to N -/
theorem lp_cnt {σ τ : Type} {F : (σ → Prop) → σ → Prop} (N : Nat) (mk : Nat → τ → σ) (I : Nat → τ → Prop)
    (step : ∀ (K : σ → Prop) (k : Nat) (t : τ), k < N → I k t → (∀ t', I (k + 1) t' → K (mk (k + 1) t')) → F K (mk k t))
    (last : ∀ (K : σ → Prop) (t : τ), I N t → F K (mk N t)) : ∀ (k : Nat) (t : τ), k ≤ N → I k t → lp F (mk k t) := by
  intro k t hk h
  have key : ∀ (m k : Nat) (t : τ), N - k = m → k ≤ N → I k t → lpN F (m + 1) (mk k t) := by
    intro m
    induction m with
    | zero =>
      intro k t h1 h2 h3
      have e : k = N := by omega
      subst e
      exact last _ t h3
    | succ m ih =>
      intro k t h1 h2 h3
      exact step _ k t (by omega) h3 (fun t' h' => ih (k + 1) t' (by omega) (by omega) h')
  exact ⟨_, key _ k t rfl hk h⟩
/-- a truth as 1 or 0 -/
def bI (b : Bool) : Int32 := if b then 1 else 0
theorem bI_t : bI true = 1 := rfl
theorem bI_f : bI false = 0 := rfl
theorem bI_01 (b : Bool) : bI b = 0 ∨ bI b = 1 := by cases b <;> simp [bI]
theorem bI_0 {b : Bool} : (bI b = 0) = (b = false) := by cases b <;> simp [bI]
theorem bI_1 {b : Bool} : (bI b = 1) = (b = true) := by cases b <;> simp [bI]
theorem nar_bI (b : Bool) : vp_nar .boolean (bI b) = bI b := by cases b <;> rfl
theorem nar_0 : vp_nar .boolean 0 = 0 := rfl
theorem nar_1 : vp_nar .boolean 1 = 1 := rfl
noncomputable def dP (p : Prop) : Bool := @decide p (Classical.propDecidable p)
theorem dP_t {p : Prop} (h : p) : dP p = true := @decide_eq_true p (Classical.propDecidable p) h
theorem dP_f {p : Prop} (h : ¬ p) : dP p = false := @decide_eq_false p (Classical.propDecidable p) h
theorem dP_iff {p : Prop} : dP p = true ↔ p := @decide_eq_true_iff p (Classical.propDecidable p)
theorem dP_congr {p q : Prop} (h : p ↔ q) : dP p = dP q := by rw [propext h]
