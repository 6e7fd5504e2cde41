/-! crack, mend, replace, pieces, history -/
def isC (p : Int32) : Bool := decide (0 ≤ p.toInt ∧ p.toInt < 256)
theorem isC_t {p : Int32} (h : isC p = true) : ∃ c, p = nI c ∧ c < 256 := by
  unfold isC at h
  rw [decide_eq_true_iff] at h
  refine ⟨p.toInt.toNat, ?_, by omega⟩
  rw [iI_nat, Int.toNat_of_nonneg h.1]
  exact iI_self p
def brk (own : Nat → Nat) (pd : Nat → Nat → Nat) (n : Nat) : Nat := fb_ct (fun p => pres own p && decide (pd p 1 = 1)) n
theorem many0 {own : Nat → Nat} {p : Nat} : (nI (cnt own p) ≤ 0) = (pres own p = false) := by
  have := cnt_le own p
  unfold pres
  rw [show (0 : Int32) = nI 0 from rfl, ge_lit (by omega) (by omega), decide_eq_false_iff_not]
  exact propext (by omega)
theorem many_br {own : Nat → Nat} {p : Nat} {A B : Prop} (h : if pres own p then B else A) : (nI (cnt own p) ≤ 0 → A) ∧ (¬ nI (cnt own p) ≤ 0 → B) := by
  rw [many0]
  cases e : pres own p <;> rw [e] at h
  · exact ⟨fun _ => h, fun z => absurd rfl z⟩
  · exact ⟨fun z => absurd z (by decide), fun _ => h⟩
theorem nI_br {a b : Nat} {A B : Prop} (ha : a < 2147483648) (hb : b < 2147483648) (h : if a = b then A else B) : (nI a = nI b → A) ∧ (¬ nI a = nI b → B) := by
  rw [nI_inj ha hb]
  split at h
  · rename_i e; exact ⟨fun _ => h, fun z => absurd e z⟩
  · rename_i e; exact ⟨fun z => absurd z e, fun _ => h⟩
theorem nI_brl {a b : Nat} {A B : Prop} (ha : a < 2147483648) (hb : b < 2147483648) (h : if a ≤ b then A else B) : (nI a ≤ nI b → A) ∧ (¬ nI a ≤ nI b → B) := by
  rw [ge_lit ha hb]
  split at h
  · rename_i e; exact ⟨fun _ => h, fun z => absurd e z⟩
  · rename_i e; exact ⟨fun z => absurd z e, fun _ => h⟩
def mendC (n : Nat) (own : Nat → Nat) (pd : Nat → Nat → Nat) (p : Int32) : Nat := if isP n own p then (if pd (tN p) 1 = 1 then 0 else 2) else 1
def replC (n : Nat) (own : Nat → Nat) (pd : Nat → Nat → Nat) (p k : Int32) : Nat := if isP n own p then (if inR k 0 7 then (if pd (tN p) 4 = 0 then 0 else if pd (tN p) 1 = 1 then 0 else 3) else 2) else 1
def replP (pd : Nat → Nat → Nat) (q k : Nat) : Nat → Nat → Nat := noteP (st2 (st2 (st2 (st2 pd q 0 k) q 1 0) q 4 0) q 2 0) q 9
def histC (n : Nat) (p k : Int32) : Bool := decide (0 ≤ p.toInt ∧ p.toInt < n ∧ 0 ≤ k.toInt)
def histA (pd : Nat → Nat → Nat) (q : Nat) (k : Int32) : Int32 := if k.toInt < pd q 3 then nI (pd q (15 + tN k)) else -1
