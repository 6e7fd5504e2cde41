/-! cells side by side; what is connected -/
def adj (a b : Nat) : Prop := (a / 16 = b / 16 ∧ (a % 16 + 1 = b % 16 ∨ b % 16 + 1 = a % 16)) ∨ (a % 16 = b % 16 ∧ (a / 16 + 1 = b / 16 ∨ b / 16 + 1 = a / 16))
theorem adj_symm {a b : Nat} (h : adj a b) : adj b a := by unfold adj at *; omega
def Rch (S : Nat → Bool) (a b : Nat) : Prop := ∀ T : Nat → Prop, T a → (∀ c d, c < 256 → d < 256 → T c → adj c d → S d = true → T d) → T b
theorem Rch.rf {S : Nat → Bool} {a : Nat} : Rch S a a := fun _ h _ => h
theorem Rch.trans {S : Nat → Bool} {a b c : Nat} (h1 : Rch S a b) (h2 : Rch S b c) : Rch S a c := fun T ha hc => h2 T (h1 T ha hc) hc
theorem Rch.step {S : Nat → Bool} {a b c : Nat} (h1 : Rch S a b) (hb : b < 256) (hc : c < 256) (h2 : adj b c) (h3 : S c = true) : Rch S a c := fun T ha hcl => hcl b c hb hc (h1 T ha hcl) h2 h3
theorem Rch.symm {S : Nat → Bool} {a b : Nat} (ha : S a = true) (h : Rch S a b) : Rch S b a := by
  have k := h (fun c => S c = true ∧ Rch S c a) ⟨ha, Rch.rf⟩ (fun c d hc hd hT had hSd => ⟨hSd, fun T h1 h2 => hT.2 T (h2 d c hd hc h1 (adj_symm had) hT.1) h2⟩)
  exact k.2
def One (S : Nat → Bool) : Prop := ∃ a, a < 256 ∧ S a = true ∧ ∀ b, b < 256 → S b = true → Rch S a b
theorem One.all {S : Nat → Bool} (h : One S) {a b : Nat} (hb : b < 256) (hSa : S a = true) (ha : a < 256) (hSb : S b = true) : Rch S a b := by
  obtain ⟨r, hr, hSr, hall⟩ := h
  exact (Rch.symm hSr (hall a ha hSa)).trans (hall b hb hSb)
theorem one_iff {S V : Nat → Bool} {a : Nat} (ha : a < 256) (hSa : S a = true) (hVa : V a = true) (hmin : ∀ b, b < 256 → V b = true → Rch S a b) (hcl : ∀ c d, c < 256 → d < 256 → V c = true → adj c d → S d = true → V d = true) : One S ↔ ∀ b, b < 256 → S b = true → V b = true := by
  constructor
  · intro h b hb hSb
    exact h.all hb hSa ha hSb (fun c => V c = true) hVa hcl
  · intro h
    exact ⟨a, ha, hSa, fun b hb hSb => hmin b hb (h b hb hSb)⟩
theorem One.congr {S S' : Nat → Bool} (h : ∀ c, c < 256 → S c = S' c) : One S ↔ One S' := by
  have key : ∀ {S S' : Nat → Bool}, (∀ c, c < 256 → S c = S' c) → One S → One S' := by
    intro S S' h ⟨a, ha, hSa, hall⟩
    refine ⟨a, ha, by rw [← h a ha]; exact hSa, fun b hb hSb T hT hcl => ?_⟩
    exact hall b hb (by rw [h b hb]; exact hSb) T hT (fun c d hc hd h1 h2 h3 => hcl c d hc hd h1 h2 (by rw [← h d hd]; exact h3))
  exact ⟨key h, key (fun c hc => (h c hc).symm)⟩
/-- counts of sets, one within the other -/
theorem ct_eq_iff {V S : Nat → Bool} {n : Nat} (hs : ∀ c, c < n → V c = true → S c = true) : fb_ct V n = fb_ct S n ↔ ∀ c, c < n → S c = true → V c = true := by
  have h1 : fb_ct (fun k => V k || (S k && !V k)) n = fb_ct V n + fb_ct (fun k => S k && !V k) n := fb_ct_or (fun k _ h => by
    obtain ⟨g1, g2⟩ := h
    rw [g1] at g2; simp at g2)
  have h2 : fb_ct (fun k => V k || (S k && !V k)) n = fb_ct S n := fb_ct_cong (fun k hk => by
    have := hs k hk
    cases hv : V k <;> cases hS : S k <;> simp_all)
  constructor
  · intro e c hc hSc
    have h3 : fb_ct (fun k => S k && !V k) n = 0 := by omega
    have h4 := fb_ct_zero.mp h3 c hc
    cases hv : V c
    · simp [hSc, hv] at h4
    · rfl
  · intro e
    exact fb_ct_cong (fun k hk => by
      have g1 := hs k hk
      have g2 := e k hk
      cases hv : V k <;> cases hS : S k <;> simp_all)
/-- the cell beside one, by the way -/
def besN (c way : Nat) : Option Nat := if way = 0 then (if c / 16 = 0 then none else some (c - 16)) else if way = 1 then (if c / 16 = 15 then none else some (c + 16)) else if way = 2 then (if c % 16 = 0 then none else some (c - 1)) else (if c % 16 = 15 then none else some (c + 1))
def besI (c way : Nat) : Int32 := match besN c way with
  | some d => nI d
  | none => -1
theorem besN_adj {c way d : Nat} (hc : c < 256) (h : besN c way = some d) : d < 256 ∧ adj c d := by
  unfold besN at h
  unfold adj
  split at h
  · split at h
    · cases h
    · cases h; omega
  · split at h
    · split at h
      · cases h
      · cases h; omega
    · split at h
      · split at h
        · cases h
        · cases h; omega
      · split at h
        · cases h
        · cases h; omega
theorem adj_besN {c d : Nat} (hc : c < 256) (hd : d < 256) (h : adj c d) : ∃ way, way < 4 ∧ besN c way = some d := by
  unfold adj at h
  rcases h with ⟨h1, h2 | h2⟩ | ⟨h1, h2 | h2⟩
  · exact ⟨3, by omega, by unfold besN; simp; omega⟩
  · exact ⟨2, by omega, by unfold besN; simp; omega⟩
  · exact ⟨1, by omega, by unfold besN; simp; omega⟩
  · exact ⟨0, by omega, by unfold besN; simp; omega⟩
def besF (p w : Int32) : Int32 :=
  let row := p / 16 + (if w = 0 then (-1) else if w = 1 then 1 else 0)
  let col := p - p / 16 * 16 + (if w = 2 then (-1) else if w = 3 then 1 else 0)
  if 0 ≤ row.toInt ∧ row.toInt ≤ 15 then (if 0 ≤ col.toInt ∧ col.toInt ≤ 15 then 16 * row + col else (-1)) else (-1)
theorem bI_br {b : Bool} {A B : Prop} : ((bI b = 0 → A) ∧ (¬ bI b = 0 → B)) = if b then B else A := by cases b <;> simp [bI]
theorem besF_ok : ∀ c, c < 256 → ∀ w, w < 4 → besF (nI c) (nI w) = besI c w := by decide +kernel
theorem besI_none {c w : Nat} (h : besN c w = none) : besI c w = -1 := by unfold besI; rw [h]
theorem besI_some {c w d : Nat} (h : besN c w = some d) : besI c w = nI d := by unfold besI; rw [h]
theorem nI_ne_m1 {d : Nat} (h : d < 2147483648) : ¬ nI d = -1 := by
  intro e
  have h1 := nI_toInt (n := d) (by omega)
  rw [e] at h1
  have h2 : (-1 : Int32).toInt = -1 := rfl
  omega
