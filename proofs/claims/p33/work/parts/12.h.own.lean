/-! changes of whose a cell is: give, join, divide -/
def ownG (own : Nat → Nat) (c q : Nat) : Nat → Nat := fun x => if x = c then q else own x
theorem cntG {own : Nat → Nat} {c q r : Nat} (hc : c < 256) : cnt (ownG own c q) r + (if own c = r then 1 else 0) = cnt own r + (if q = r then 1 else 0) := by
  have h := fb_ct_upd (fun x => decide (own x = r)) (decide (q = r)) hc
  have e : (fun k => if k = c then decide (q = r) else decide (own k = r)) = fun x => decide (ownG own c q x = r) := by
    funext x
    unfold ownG
    split <;> rfl
  rw [e] at h
  simp only [decide_eq_true_iff] at h
  exact h
theorem cnt_pos {own : Nat → Nat} {c : Nat} (hc : c < 256) : 0 < cnt own (own c) := fb_ct_pos.mpr ⟨c, hc, decide_eq_true rfl⟩
def RO (of : Nat → Int32) (own : Nat → Nat) : Prop := ∀ c, c < 256 → of c = nI (own c)
def RN (many : Nat → Int32) (own : Nat → Nat) : Prop := ∀ p, p < 60 → many p = nI (cnt own p)
theorem RO.g {of : Nat → Int32} {own : Nat → Nat} (h : RO of own) (c q : Nat) : RO (upd of c (nI q)) (ownG own c q) := fun x hx => by
  unfold ownG
  by_cases e : x = c
  · rw [e, upd_at, if_pos rfl]
  · rw [upd_ne _ _ e, if_neg e]; exact h x hx
theorem RN.g {many : Nat → Int32} {own : Nat → Nat} (h : RN many own) {c q : Nat} (hc : c < 256) (hne : own c ≠ q) (hq : q < 60) (ho : own c < 60) : RN (upd (upd many q (many q + 1)) (own c) (upd many q (many q + 1) (own c) - 1)) (ownG own c q) := fun r hr => by
  have hg := cntG (own := own) (q := q) (r := r) hc
  by_cases e1 : r = own c
  · subst e1
    have hp := cnt_pos (own := own) hc
    have hl := cnt_le own (own c)
    rw [upd_at, upd_ne _ _ hne, h _ hr, show (1 : Int32) = nI 1 from rfl, pk_sub (by omega)]
    rw [if_pos rfl, if_neg (fun z => hne z.symm)] at hg
    exact congrArg nI (by omega)
  · rw [upd_ne _ _ e1]
    by_cases e2 : r = q
    · subst e2
      rw [upd_at, h _ hr, nI_1]
      rw [if_neg hne, if_pos rfl] at hg
      exact congrArg nI (by omega)
    · rw [upd_ne _ _ e2, h _ hr]
      rw [if_neg (fun z => e1 z.symm), if_neg (fun z => e2 z.symm)] at hg
      exact congrArg nI (by omega)
def besB (own : Nat → Nat) (c q : Nat) : Bool := anyB (fun w => match besN c w with
  | none => false
  | some d => decide (own d = q)) 4
theorem besB_iff {own : Nat → Nat} {c q : Nat} (hc : c < 256) : besB own c q = true ↔ ∃ d, d < 256 ∧ adj c d ∧ own d = q := by
  unfold besB
  rw [anyB_iff]
  constructor
  · rintro ⟨w, hw, h⟩
    cases hb : besN c w with
    | none => rw [hb] at h; exact Bool.noConfusion h
    | some d =>
      rw [hb] at h
      have := besN_adj hc hb
      exact ⟨d, this.1, this.2, of_decide_eq_true h⟩
  · rintro ⟨d, hd, ha, e⟩
    obtain ⟨w, hw, hb⟩ := adj_besN hc hd ha
    refine ⟨w, hw, ?_⟩
    rw [hb]
    exact decide_eq_true e
def remS (own : Nat → Nat) (c : Nat) : Nat → Bool := fun x => decide (own x = own c) && decide (x ≠ c)
noncomputable def giveC (n : Nat) (own : Nat → Nat) (pd : Nat → Nat → Nat) (c p : Int32) : Nat :=
  if isC c && isP n own p then (if decide (own (tN c) ≠ tN p) && besB own (tN c) (tN p) && decide (pd (own (tN c)) 4 = 0) && decide (pd (tN p) 4 = 0) && dP (One (remS own (tN c))) then 0 else 2) else 1
