/-! the state of the law: what the class and the reference both hold -/
/-- pieces ever made, owner of each cell, numbers of each piece, heart, width, bars -/
abbrev SG : Type := Nat × (Nat → Nat) × (Nat → Nat → Nat) × Nat × Nat × (Nat → Bool)
def IS (s : SG) : Prop := InvO s.1 s.2.1 ∧ InvP s.1 s.2.2.1 ∧ s.2.2.2.2.1 ≤ 40 ∧ fb_ct s.2.2.2.2.2 15 ≤ 5
abbrev KT : Type := Nat × Nat × Nat × Nat × (Nat → Nat) × (Nat → Nat) × (Nat → Nat) × (Nat → Nat) × (Nat → Nat) × (Nat → Nat) × (Nat → Nat) × (Nat → Nat) × (Nat → Nat → Nat) × Int32 × Int32 × (Nat → Option Nat) × (Nat → Int32) × (Nat → Int64) × (Nat → Int32) × (Nat → Int32) × (Nat → Int32) × (Nat → Int32) × (Nat → Int32) × (Nat → Int32) × (Nat → Int32) × (Nat → Int32) × (Nat → Int32) × (Nat → Int32) × Int32 × Int32 × Int32 × Int32 × Int32 × (Nat → Int32) × (Nat → Int32) × (Nat → Int32) × (Nat → Int32) × (Nat → Int32) × (Nat → Nat → Int32) × (Nat → Nat → Int32) × (Nat → Nat → Int32) × (Nat → Int64)
/-- the class's cells stand for the state -/
def RCt (s : SG) : KT → Prop := fun ⟨n, hw, sw, cap, _, _, _, _, _, _, _, ad, _, br, _, el, ow, _, _, _, _, _, _, _, _, _, _, _, _, _, _, _, _, qc, qs, ql, qt, qo, qh, qf, qth, _⟩ => IS s ∧ n = s.1 ∧ hw = s.2.2.2.1 ∧ sw = s.2.2.2.2.1 ∧ n ≤ cap ∧ 10 ≤ cap ∧ cap ≤ 90 ∧ (∀ i, i < n → el i = some (ad i)) ∧ (∀ i, n ≤ i → i < cap → el i = none) ∧ RO ow s.2.1 ∧ rB br s.2.2.2.2.2 ∧ CP qc s.2.2.1 0 n ∧ CP qs s.2.2.1 1 n ∧ CP ql s.2.2.1 2 n ∧ CP qt s.2.2.1 3 n ∧ CP qo s.2.2.1 4 n ∧ CQ qh s.2.2.1 5 5 n ∧ CQ qf s.2.2.1 10 5 n ∧ CQ qth s.2.2.1 15 20 n
/-- its cells -/
abbrev WCt (cI cJ cO : ClassId) (h : Nat) : KT → va_W := fun ⟨n, hw, sw, cap, a, aC, aM, aW, aN, aF, aL, ad, af, br, md, el, ow, su, wr, wc, nr, nc, fr, fc, lq, lh, lw, lsp, x1, x2, x3, x4, x5, qc, qs, ql, qt, qo, qh, qf, qth, _⟩ => (WX cI cJ cO h a aC aM aW aN aF aL cap (nI hw) (nI sw) br ow su md el (nI n) wr wc nr nc fr fc lq lh lw lsp x1 x2 x3 x4 x5) ++ pool (PF cI ad af qc qs ql qt qo qh qf qth) n
theorem InvP.two {n p q s t : Nat} {pd : Nat → Nat → Nat} (h : InvP n pd) (hp : p < n) (hq : q < n) (hs : s < 1000) (ht : t < 1000) : InvP n (noteP (noteP pd p s) q t) := (h.note hp hs).note hq ht
theorem InvP.col {n q k : Nat} {pd : Nat → Nat → Nat} (h : InvP n pd) (hq : q < n) (hk : k < 8) : InvP n (colP pd q k) := by
  unfold colP
  split
  · exact h
  · exact (h.st hq ⟨by omega, by omega, by omega, by omega, by omega, by omega, by omega⟩).note hq (by omega)
theorem InvP.fin {n : Nat} {own : Nat → Nat} {pd : Nat → Nat → Nat} (h : InvP n pd) : ∀ {k : Nat}, k ≤ n → InvP n (finP own pd k)
  | 0, _ => h
  | k + 1, hk => by
    unfold finP
    split
    · exact ((InvP.fin h (k := k) (by omega)).st (by omega) ⟨by omega, by omega, by omega, by omega, by omega, by omega, by omega⟩).note (by omega) (by omega)
    · exact InvP.fin h (by omega)
theorem InvP.paint {n q k : Nat} {pd : Nat → Nat → Nat} (h : InvP n pd) (hq : q < n) (hk : k < 1000) (h5 : ¬ pd q 2 = 5) : InvP n (paintP pd q k) := by
  have b := (h.1 q).2.2.1
  unfold paintP
  exact (((h.st (k := 5 + pd q 2) hq ⟨by omega, by omega, by omega, by omega, by omega, by omega, by omega⟩).st (k := 10 + pd q 2) (v := 0) hq ⟨by omega, by omega, by omega, by omega, by omega, by omega, by omega⟩).st (k := 2) (v := pd q 2 + 1) hq ⟨by omega, by omega, by omega, by omega, by omega, by omega, by omega⟩).note hq (by omega)
theorem InvP.repl {n q k : Nat} {pd : Nat → Nat → Nat} (h : InvP n pd) (hq : q < n) (hk : k < 8) : InvP n (replP pd q k) := by
  unfold replP
  exact ((((h.st (k := 0) (v := k) hq ⟨by omega, by omega, by omega, by omega, by omega, by omega, by omega⟩).st (k := 1) (v := 0) hq ⟨by omega, by omega, by omega, by omega, by omega, by omega, by omega⟩).st (k := 4) (v := 0) hq ⟨by omega, by omega, by omega, by omega, by omega, by omega, by omega⟩).st (k := 2) (v := 0) hq ⟨by omega, by omega, by omega, by omega, by omega, by omega, by omega⟩).note hq (by omega)
theorem InvP.stt {n q v t : Nat} {pd : Nat → Nat → Nat} (h : InvP n pd) (hq : q < n) (hv : v < 3) (ht : t < 1000) : InvP n (noteP (st2 pd q 1 v) q t) := (h.st hq ⟨by omega, by omega, by omega, by omega, by omega, by omega, by omega⟩).note hq ht
theorem InvP.fir {n q h m : Nat} {pd : Nat → Nat → Nat} (g : InvP n pd) (hq : q < n) (hm : m ≤ 5) : InvP n (firP pd q h m) := by
  obtain ⟨g1, g2, g3, g4⟩ := g
  have lo : ∀ p j, j < 10 → firP pd q h m p j = pd p j := fun p j hj => by unfold firP; rw [if_neg (by omega)]
  have sm : ∀ p j, firP pd q h m p j = pd p j ∨ firP pd q h m p j < 3 := fun p j => by
    unfold firP
    by_cases e : p = q ∧ 10 ≤ j ∧ j < 10 + m
    · rw [if_pos e]
      refine Or.inr (newb_lt ?_)
      have := g4 q (j - 10) (by omega)
      rw [show 10 + (j - 10) = j by omega] at this
      exact this
    · rw [if_neg e]; exact Or.inl rfl
  refine ⟨fun p => ?_, fun p j => ?_, fun p j hp => ?_, fun p k hk => ?_⟩
  · rw [lo p 0 (by omega), lo p 1 (by omega), lo p 2 (by omega), lo p 3 (by omega), lo p 4 (by omega)]; exact g1 p
  · rcases sm p j with e | e
    · rw [e]; exact g2 p j
    · omega
  · have e : firP pd q h m p j = pd p j := by unfold firP; rw [if_neg (by omega)]
    rw [e]; exact g3 p j hp
  · rcases sm p (10 + k) with e | e
    · rw [e]; exact g4 p k hk
    · exact e
theorem fb_flip {b : Nat → Bool} {k : Nat} : ∀ n, fb_ct (flip b k) n + (if k < n ∧ b k = true then 1 else 0) = fb_ct b n + (if k < n ∧ b k = false then 1 else 0)
  | 0 => by
    rw [if_neg (by omega), if_neg (by omega)]
    rfl
  | n + 1 => by
    have ih := fb_flip (b := b) (k := k) n
    rw [fb_ct_succ (flip b k) n, fb_ct_succ b n]
    have e : flip b k n = if n = k then !b n else b n := rfl
    rw [e]
    by_cases h : n = k
    · subst h
      rw [if_neg (by omega), if_neg (by omega)] at ih
      rw [if_pos rfl]
      cases hb : b n
      · simp; omega
      · simp; omega
    · rw [if_neg h]
      have e1 : (if k < n + 1 ∧ b k = true then 1 else 0) = (if k < n ∧ b k = true then 1 else 0) := by
        by_cases g : k < n
        · by_cases g2 : b k = true
          · rw [if_pos ⟨by omega, g2⟩, if_pos ⟨g, g2⟩]
          · rw [if_neg (fun z => g2 z.2), if_neg (fun z => g2 z.2)]
        · rw [if_neg (fun z => g (by have := z.1; omega)), if_neg (fun z => g z.1)]
      have e2 : (if k < n + 1 ∧ b k = false then 1 else 0) = (if k < n ∧ b k = false then 1 else 0) := by
        by_cases g : k < n
        · by_cases g2 : b k = false
          · rw [if_pos ⟨by omega, g2⟩, if_pos ⟨g, g2⟩]
          · rw [if_neg (fun z => g2 z.2), if_neg (fun z => g2 z.2)]
        · rw [if_neg (fun z => g (by have := z.1; omega)), if_neg (fun z => g z.1)]
      rw [e1, e2]
      omega
theorem flip_5 {b : Nat → Bool} {p : Int32} (h : fb_ct b 15 ≤ 5) (hc : barC b p = 0) (hp : inR p 0 14 = true) : fb_ct (flip b (tN p)) 15 ≤ 5 := by
  unfold barC at hc
  rw [if_pos hp] at hc
  have f := fb_flip (b := b) (k := tN p) 15
  cases hb : b (tN p)
  · rw [hb] at hc f
    have h4 : ¬ fb_ct b 15 = 5 := fun z => by
      rw [decide_eq_true z] at hc
      exact absurd hc (by decide)
    rw [if_neg (by simp)] at f
    split at f <;> omega
  · rw [hb] at f
    rw [if_neg (show ¬ (tN p < 15 ∧ true = false) by simp)] at f
    split at f <;> omega
