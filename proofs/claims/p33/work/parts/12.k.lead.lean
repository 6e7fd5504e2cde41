/-! at, length, joints, weight -/
def atZ (own : Nat → Nat) (r c : Int) : Int := if 0 ≤ r ∧ r ≤ 15 ∧ 0 ≤ c ∧ c ≤ 15 then (own (16 * r.toNat + c.toNat) : Int) else -1
theorem atZ_rng {n : Nat} {own : Nat → Nat} (hO : InvO n own) (r c : Int) : -1 ≤ atZ own r c ∧ atZ own r c < 60 := by
  unfold atZ
  split
  · have h1 := hO.2.2.1 (16 * r.toNat + c.toNat) (by omega)
    have h2 := hO.2.1
    omega
  · omega
theorem pm1 {a : Nat} (h : a < 2147483648) : (nI a - 1).toInt = (a : Int) - 1 := by
  have e := nI_toInt h
  rw [fb_subI (by rw [e, show (1 : Int32).toInt = 1 from rfl]; omega) (by rw [e, show (1 : Int32).toInt = 1 from rfl]; omega), e]
  rfl
theorem nI_brlt {a b : Nat} {A B : Prop} (ha : a < 2147483648) (hb : b < 2147483648) (h : if a < b then A else B) : (nI a < nI b → A) ∧ (¬ nI a < nI b → B) := by
  have e : (nI a < nI b) = (a < b) := by
    rw [fa_lt, nI_toInt ha, nI_toInt hb]; exact propext (by omega)
  rw [e]
  split at h
  · rename_i e; exact ⟨fun _ => h, fun z => absurd e z⟩
  · rename_i e; exact ⟨fun z => absurd z e, fun _ => h⟩
/-- 1 where two differ -/
def df (x y : Int) : Nat := if x = y then 0 else 1
theorem df_br {n : Nat} {own : Nat → Nat} (hO : InvO n own) {r c r2 c2 : Int} {A B : Prop} (h : if df (atZ own r c) (atZ own r2 c2) = 0 then A else B) : (iI (atZ own r c) = iI (atZ own r2 c2) → A) ∧ (¬ iI (atZ own r c) = iI (atZ own r2 c2) → B) := by
  have h1 := atZ_rng hO r c
  have h2 := atZ_rng hO r2 c2
  rw [iI_eq (by omega) (by omega)]
  unfold df at h
  by_cases e : atZ own r c = atZ own r2 c2
  · rw [if_pos e, if_pos rfl] at h; exact ⟨fun _ => h, fun z => absurd e z⟩
  · rw [if_neg e, if_neg (by decide)] at h; exact ⟨fun z => absurd z e, fun _ => h⟩
theorem df_01 (x y : Int) : df x y = 0 ∨ df x y = 1 := by unfold df; split <;> simp
def vE (own : Nat → Nat) (a b : Nat) : Nat := df (atZ own ((a : Int) - 1) b) (atZ own a b)
def hE (own : Nat → Nat) (a b : Nat) : Nat := df (atZ own b ((a : Int) - 1)) (atZ own b a)
def lenN (own : Nat → Nat) : Nat := fb_sm (fun a => fb_sm (fun b => vE own a b + hE own a b) 16) 17
def sidN (own : Nat → Nat) (a b : Nat) : Nat := df (atZ own ((a : Int) - 1) ((b : Int) - 1)) (atZ own ((a : Int) - 1) b) + df (atZ own a ((b : Int) - 1)) (atZ own a b) + (df (atZ own ((a : Int) - 1) ((b : Int) - 1)) (atZ own a ((b : Int) - 1)) + df (atZ own ((a : Int) - 1) b) (atZ own a b))
def joiN (own : Nat → Nat) : Nat := fb_sm (fun a => fb_ct (fun b => decide (2 < sidN own a b)) 17) 17
theorem le2_br {a : Nat} {A B : Prop} (ha : a < 2147483648) (h : if 2 < a then B else A) : (nI a ≤ 2 → A) ∧ (¬ nI a ≤ 2 → B) := by
  rw [show (2 : Int32) = nI 2 from rfl, ge_lit ha (by omega)]
  split at h
  · rename_i e; exact ⟨fun z => absurd z (by omega), fun _ => h⟩
  · rename_i e; exact ⟨fun _ => h, fun z => absurd (show a ≤ 2 by omega) z⟩
