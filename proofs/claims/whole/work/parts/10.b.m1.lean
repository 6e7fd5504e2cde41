/-! the model's small methods -/
theorem lc_end : (256 : Int32) ≤ nI 256 := by decide
theorem ex_z (p : Int32) : ∃ z : Int, (-2147483648 ≤ z ∧ z < 2147483648) ∧ p = iI z := ⟨p.toInt, fb_rng p, iI_self p⟩
theorem w_in (p a b : Int32) (post : Int32 → Prop) : wp_X5_in p a b post = post (bI (decide (a.toInt ≤ p.toInt ∧ p.toInt ≤ b.toInt))) := by
  unfold wp_X5_in
  rw [fa_lt, fa_lt]
  by_cases h1 : p.toInt < a.toInt
  · have e : decide (a.toInt ≤ p.toInt ∧ p.toInt ≤ b.toInt) = false := decide_eq_false (by omega)
    simp [h1, e, bI]
  · by_cases h2 : b.toInt < p.toInt
    · have e : decide (a.toInt ≤ p.toInt ∧ p.toInt ≤ b.toInt) = false := decide_eq_false (by omega)
      simp [h1, h2, e, bI]
    · have e : decide (a.toInt ≤ p.toInt ∧ p.toInt ≤ b.toInt) = true := decide_eq_true (by omega)
      simp [h1, h2, e, bI]
theorem w_goesWell (t p : Int32) (post : Int32 → Int32 → Prop) : wp_X5_goesWell t p post = post (bI (decide (p = 0))) p := by
  unfold wp_X5_goesWell
  by_cases h : p = 0 <;> simp [h, bI]
theorem w_isCell (p : Int32) (post : Int32 → Prop) : wp_X5_isCell p post = post (bI (decide (0 ≤ p.toInt ∧ p.toInt < 256))) := by
  unfold wp_X5_isCell
  rw [w_in]
  have e : ((0 : Int32).toInt ≤ p.toInt ∧ p.toInt ≤ (255 : Int32).toInt) = (0 ≤ p.toInt ∧ p.toInt < 256) := by
    rw [show (0 : Int32).toInt = 0 from rfl, show (255 : Int32).toInt = 255 from rfl]
    exact propext ⟨fun h => ⟨h.1, by omega⟩, fun h => ⟨h.1, by omega⟩⟩
  simp only [e]
  exact propext ⟨fun h => h.2, fun h => ⟨bI_01 _, h⟩⟩
def lineB (z : Int) : Bool := decide ((0 ≤ z ∧ z ≤ 14) ∨ (16 ≤ z ∧ z ≤ 30))
theorem w_isLine (p : Int32) (post : Int32 → Prop) : wp_X5_isLine p post = post (bI (lineB p.toInt)) := by
  unfold wp_X5_isLine
  rw [w_in, w_in]
  rw [show (0 : Int32).toInt = 0 from rfl, show (14 : Int32).toInt = 14 from rfl, show (16 : Int32).toInt = 16 from rfl, show (30 : Int32).toInt = 30 from rfl]
  unfold lineB
  by_cases h1 : 0 ≤ p.toInt ∧ p.toInt ≤ 14
  · simp [h1, bI]
  · by_cases h2 : 16 ≤ p.toInt ∧ p.toInt ≤ 30
    · simp [h1, h2, bI]
    · simp [h1, h2, bI]
/-- beyond a line -/
def byd (c line : Nat) : Bool := if line < 16 then decide (line < c / 16) else decide (line - 16 < c % 16)
theorem nrem {c : Nat} (h : c < 256) : nI c - nI c / 16 * 16 = nI (c % 16) := by
  have e : (16 : Int32) = nI 16 := rfl
  rw [e]
  exact pk_rem (by omega) (by omega) (by omega)
theorem ndiv {c : Nat} (h : c < 256) : nI c / 16 = nI (c / 16) := by
  have e : (16 : Int32) = nI 16 := rfl
  rw [e]
  exact pk_div (by omega) (by omega) (by omega)
theorem w_isBeyond {c line : Nat} (hc : c < 256) (hl : line < 32) (post : Int32 → Prop) : wp_X5_isBeyond (nI c) (nI line) post = post (bI (byd c line)) := by
  unfold wp_X5_isBeyond byd
  rw [nrem hc, ndiv hc]
  rw [show (16 : Int32) = nI 16 from rfl, nI_leI (by omega) (by omega)]
  by_cases h : line < 16
  · rw [if_pos h, nI_leI (by omega) (by omega)]
    by_cases h2 : line < c / 16
    · simp [show ¬ 16 ≤ line by omega, show ¬ c / 16 ≤ line by omega, h2, bI]
    · simp [show ¬ 16 ≤ line by omega, show c / 16 ≤ line by omega, h2, bI]
  · rw [if_neg h, pk_sub (by omega), nI_leI (by omega) (by omega)]
    by_cases h2 : line - 16 < c % 16
    · simp [show 16 ≤ line by omega, show ¬ c % 16 ≤ line - 16 by omega, h2, bI]
    · simp [show 16 ≤ line by omega, show c % 16 ≤ line - 16 by omega, h2, bI]
/-- what stands in a loop over 256 cells -/
theorem lc_in {k : Nat} (h : k < 256) : vp_in (nI k) 256 := vp_in_nI h (by omega)
theorem lc_N {k : Nat} (h : k < 2147483648) : (nI k).toNatClampNeg = k := nI_clamp h
theorem lc_ge {k : Nat} (h : k < 256) : ¬ (256 : Int32) ≤ nI k := by
  rw [show (256 : Int32) = nI 256 from rfl, nI_leI (by omega) (by omega)]; omega
theorem upd_at (f : Nat → Int32) (k : Nat) (x : Int32) : upd f k x k = x := pk_us
theorem upd_ne (f : Nat → Int32) {k j : Nat} (x : Int32) (h : j ≠ k) : upd f k x j = f j := pk_un h
/-- an array of truths, filled up to k -/
def fillB (S : Nat → Bool) (k : Nat) (f : Nat → Int32) : Prop := ∀ j, j < k → f j = bI (S j)
theorem fillB_0 (S : Nat → Bool) (f : Nat → Int32) : fillB S 0 f := fun j h => absurd h (Nat.not_lt_zero j)
theorem fillB_upd {S : Nat → Bool} {k : Nat} {f : Nat → Int32} (h : fillB S k f) : fillB S (k + 1) (upd f k (bI (S k))) := fun j hj => by
  by_cases e : j = k
  · rw [e, upd_at]
  · rw [upd_ne _ _ e]; exact h j (by omega)
theorem cnt_bI (S : Nat → Bool) (k : Nat) : nI (fb_ct S k) + bI (S k) = nI (fb_ct S (k + 1)) := by
  rw [fb_ct_succ]
  cases S k
  · simp [bI]
  · simp only [bI, if_true]; exact nI_1 _
theorem m_setSide {of set : Nat → Int32} {p b : Int32} {line : Nat} {post : Int32 → (Nat → Int32) → Prop} (S : Nat → Bool) (hl : line < 32) (hS : ∀ c, c < 256 → S c = (decide (of c = p) && decide (bI (byd c line) = b)))
    (h : ∀ set', fillB S 256 set' → post (nI (fb_ct S 256)) set') : wp_X5_setSide of set p (nI line) b post := by
  unfold wp_X5_setSide
  refine lp_cnt 256 (fun k (t : Int32 × (Nat → Int32)) => (t.1, nI k, t.2)) (fun k t => t.1 = nI (fb_ct S k) ∧ fillB S k t.2) ?_ ?_ 0 (0, set) (by omega) ⟨rfl, fillB_0 S set⟩
  · rintro K k ⟨n, f⟩ hk ⟨rfl, hf⟩ hK
    have key : wp_X5_setSide_46 of set p (nI line) b post (fun b0 b1 b2 => K (b0, b1, b2)) (nI k) (bI (S k)) (nI (fb_ct S k)) (nI k) f := by
      unfold wp_X5_setSide_46
      refine ⟨lc_in hk, fun f' hf' => ⟨lc_in hk, ?_⟩⟩
      have e0 : (nI k).toNatClampNeg = k := lc_N (by omega)
      rw [e0] at hf' ⊢
      rw [nar_bI] at hf'
      have e1 : f' k = bI (S k) := by rw [hf', upd_at]
      have hf2 : fillB S (k + 1) f' := by rw [hf']; exact fillB_upd hf
      have hfin : wp_X5_setSide_64 of set p (nI line) b post (fun b0 b1 b2 => K (b0, b1, b2)) (nI (fb_ct S k)) (bI (S k)) (nI k) f' := by
        unfold wp_X5_setSide_64
        rw [cnt_bI, nI_1]
        exact hK (nI (fb_ct S (k + 1)), f') ⟨rfl, hf2⟩
      rw [e1]
      cases hS : S k
      · rw [hS] at hfin; exact ⟨fun _ => hfin, fun z => absurd rfl z⟩
      · rw [hS] at hfin; exact ⟨fun z => absurd z (by decide), fun _ => hfin⟩
    show wp_X5_setSide_6 _ _ _ _ _ _ _ _ _ _
    unfold wp_X5_setSide_6
    refine ⟨fun z => absurd z (lc_ge hk), fun _ => ⟨lc_in hk, ?_⟩⟩
    rw [lc_N (by omega), w_isBeyond hk hl]
    have hSk := hS k hk
    refine ⟨fun e => ⟨fun e2 => ?_, fun e2 => ?_⟩, fun e => ?_⟩
    · rw [decide_eq_true e, decide_eq_true e2] at hSk; rw [hSk] at key; exact key
    · rw [decide_eq_true e, decide_eq_false e2] at hSk; rw [hSk] at key; exact key
    · rw [decide_eq_false e] at hSk; rw [hSk] at key; exact key
  · rintro K ⟨n, f⟩ ⟨rfl, hf⟩
    show wp_X5_setSide_6 _ _ _ _ _ _ _ _ _ _
    unfold wp_X5_setSide_6
    exact ⟨fun _ => h f hf, fun z => absurd lc_end z⟩
