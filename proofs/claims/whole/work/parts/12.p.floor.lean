/-! shown, floor -/
def sunN (h : Nat) : Nat := 6 - (if h < 12 then 12 - h else h - 12)
def depN (h r : Nat) : Nat := 4 * (16 - r) / sunN h
def driZ (h d : Nat) : Int := ((h : Int) - 12) * d / 8
def comB (d col : Int) (h c : Nat) : Bool := decide ((depN h (c / 16) : Int) = d) && decide (((c % 16 : Nat) : Int) + driZ h (depN h (c / 16)) = col)
def shwF (own : Nat → Nat) (pd : Nat → Nat → Nat) (C : Nat → Bool) : Nat → Nat
  | 0 => 0
  | k + 1 => shwF own pd C k ||| (if C k then 2 ^ (pd (own k) 0) else 0)
def shwN (own : Nat → Nat) (pd : Nat → Nat → Nat) (d col : Int32) (h : Nat) : Nat := shwF own pd (comB d.toInt col.toInt h) 256
theorem sh_one : ∀ k, k < 8 → (1 : Int32) <<< (nI k &&& 31) = nI (2 ^ k) := by decide +kernel
theorem iI_p {z : Int} {p : Int32} (hz : -2147483648 ≤ z ∧ z < 2147483648) : (iI z = p) = (z = p.toInt) := by
  have e : p = iI p.toInt := iI_self p
  have r := fb_rng p
  refine propext ⟨fun h => ?_, fun h => ?_⟩
  · rw [← h, iI_toInt hz]
  · rw [h, ← e]
theorem floor8 (z : Int) (h : -100000 ≤ z ∧ z < 100000) {post : Int32 → Prop} (hp : post (iI (z / 8))) : wp_X5_floorDiv (iI z) 8 post := by
  unfold wp_X5_floorDiv
  have e0 : (iI z < 0) = (z < 0) := by
    rw [show (0 : Int32) = iI 0 from rfl, iI_lt (by omega) (by omega)]
  rw [e0]
  refine ⟨fun c => ⟨by decide, ?_⟩, fun c => ⟨by decide, ?_⟩⟩
  · rw [show (8 : Int32) = iI 8 from rfl, show (1 : Int32) = iI 1 from rfl, iI_neg, iI_add, iI_sub, iI_div (by omega) (by omega), iI_neg]
    have : -((-z + 8 - 1) / 8) = z / 8 := by omega
    rw [this]; exact hp
  · rw [show (8 : Int32) = iI 8 from rfl, iI_div (by omega) (by omega)]
    exact hp
theorem dep_le {h r : Nat} : depN h r ≤ 64 := by
  unfold depN
  have : 4 * (16 - r) / sunN h ≤ 4 * (16 - r) := Nat.div_le_self _ _
  omega
theorem m_shown {n : Nat} {own : Nat → Nat} {pd : Nat → Nat → Nat} {of colour : Nat → Int32} {d col : Int32} {h : Nat} {post : Int32 → Prop} (hO : InvO n own) (hP : InvP n pd) (ho : RO of own) (r0 : RP colour pd 0) (h1 : 7 ≤ h) (h2 : h ≤ 17) (hp : post (nI (shwN own pd d col h))) : wp_X5_shown of colour d col (nI h) post := by
  have hn := hO.2.1
  have hs : 1 ≤ sunN h ∧ sunN h ≤ 6 := by unfold sunN; split <;> omega
  have key : wp_X5_shown_17 of colour d col (nI h) post (nI (6 - sunN h)) := by
    unfold wp_X5_shown_17
    obtain ⟨C, hC⟩ : ∃ C, C = comB d.toInt col.toInt h := ⟨_, rfl⟩
    unfold shwN at hp
    rw [← hC] at hp
    refine lp_cnt 256 (fun k (_ : Unit) => (nI (6 - sunN h), nI (shwF own pd C k), nI k)) (fun _ _ => True) ?_ ?_ 0 () (by omega) trivial
    · rintro K k - hk - hK
      have hK := hK () trivial
      show wp_X5_shown_25 _ _ _ _ _ _ _ _ _ _
      unfold wp_X5_shown_25
      dsimp only
      have e6 : (6 : Int32) - nI (6 - sunN h) = nI (sunN h) := by
        rw [show (6 : Int32) = nI 6 from rfl, pk_sub (by omega)]
        exact congrArg nI (by omega)
      have ed : (4 : Int32) * (16 - nI k / 16) / nI (sunN h) = nI (depN h (k / 16)) := by
        rw [ndiv hk, show (16 : Int32) = nI 16 from rfl, show (4 : Int32) = nI 4 from rfl, pk_sub (by omega), pk_mul, pk_div (by omega) (by omega) (by omega)]
        rfl
      have hd := dep_le (h := h) (r := k / 16)
      have hok := hO.2.2.1 k hk
      rw [e6, ed, nrem hk]
      refine ⟨fun z => absurd z (lc_ge hk), fun _ => ⟨?_, ?_⟩⟩
      · rw [show (0 : Int32) = nI 0 from rfl, nI_inj (by omega) (by omega)]; omega
      rintro _ rfl
      have k84 : ∀ b : Bool, b = C k → wp_X5_shown_84 of colour d col (nI h) post (fun b0 b1 b2 => K (b0, b1, b2)) (bI b) (nI (6 - sunN h)) (nI (shwF own pd C k)) (nI k) := fun b hb => by
        unfold wp_X5_shown_84 wp_X5_shown_111
        rw [shwF, ← hb, ← fa_or] at hK
        rw [nI_1 k]
        cases b
        · exact ⟨fun _ => hK, fun z => absurd rfl z⟩
        · refine ⟨ne1, fun _ => ⟨lc_in hk, ?_⟩⟩
          rw [nI_clamp (show k < 2147483648 by omega), ho k hk, nI_clamp (show own k < 2147483648 by omega), r0 _ (by omega), sh_one _ (hP.1 (own k)).1]
          exact ⟨in60 (by omega), hK⟩
      have eC : C k = (decide ((depN h (k / 16) : Int) = d.toInt) && decide (((k % 16 : Nat) : Int) + driZ h (depN h (k / 16)) = col.toInt)) := by rw [hC]; rfl
      rw [iI_nat (depN h (k / 16)), iI_p (by omega)]
      refine ⟨fun z => ?_, fun z => k84 false (by rw [eC, decide_eq_false z]; rfl)⟩
      rw [decide_eq_true z, Bool.true_and] at eC
      have em : (nI h - 12) * iI (depN h (k / 16) : Int) = iI (((h : Int) - 12) * (depN h (k / 16) : Int)) := by
        rw [iI_nat, show (12 : Int32) = iI 12 from rfl, iI_sub, iI_mul]
      rw [em]
      have bnd : -100000 ≤ ((h : Int) - 12) * (depN h (k / 16) : Int) ∧ ((h : Int) - 12) * (depN h (k / 16) : Int) < 100000 := by
        obtain ⟨D, hD⟩ : ∃ D, D = depN h (k / 16) := ⟨_, rfl⟩
        rw [← hD] at hd ⊢
        have a1 : ((h : Int) - 12) * (D : Int) ≤ 5 * 64 := by
          rcases Int.le_total 0 ((h : Int) - 12) with g | g
          · exact Int.mul_le_mul (by omega) (by omega) (by omega) (by omega)
          · have := Int.mul_nonpos_of_nonpos_of_nonneg g (show (0 : Int) ≤ (D : Int) by omega)
            omega
        have a2 : -(5 * 64) ≤ ((h : Int) - 12) * (D : Int) := by
          rcases Int.le_total 0 ((h : Int) - 12) with g | g
          · have := Int.mul_nonneg g (show (0 : Int) ≤ (D : Int) by omega)
            omega
          · have : (12 - (h : Int)) * (D : Int) ≤ 5 * 64 := Int.mul_le_mul (by omega) (by omega) (by omega) (by omega)
            have e : ((h : Int) - 12) * (D : Int) = -((12 - (h : Int)) * (D : Int)) := by rw [← Int.neg_mul]; congr 1; omega
            omega
        omega
      refine floor8 _ bnd ?_
      have edr : ((h : Int) - 12) * (depN h (k / 16) : Int) / 8 = driZ h (depN h (k / 16)) := rfl
      have hb8 : -100000 ≤ driZ h (depN h (k / 16)) ∧ driZ h (depN h (k / 16)) < 100000 := by rw [← edr]; omega
      rw [edr, iI_nat (k % 16), iI_add, iI_p (by omega)]
      exact ⟨fun z => k84 true (by rw [eC, decide_eq_true z]), fun z => k84 false (by rw [eC, decide_eq_false z])⟩
    · rintro K - -
      show wp_X5_shown_25 _ _ _ _ _ _ _ _ _ _
      unfold wp_X5_shown_25
      exact ⟨fun _ => hp, fun z => absurd lc_end z⟩
  unfold wp_X5_shown
  rw [show (12 : Int32) = nI 12 from rfl]
  refine brle2 (by omega) (by omega) (fun z => ?_) (fun z => ?_)
  · rw [pk_sub (by omega)]
    have : 6 - sunN h = h - 12 := by unfold sunN; rw [if_neg (by omega)]; omega
    rw [← this]; exact key
  · rw [pk_sub (by omega)]
    have : 6 - sunN h = 12 - h := by unfold sunN; rw [if_pos (by omega)]; omega
    rw [← this]; exact key
theorem m_floor {n : Nat} {own : Nat → Nat} {pd : Nat → Nat → Nat} {of colour : Nat → Int32} {t d col h : Int32} {post : Int32 → Int32 → Prop} (hO : InvO n own) (hP : InvP n pd) (ho : RO of own) (r0 : RP colour pd 0)
    (h0 : inR h 7 17 = false → post 0 1) (h1 : inR h 7 17 = true → post (nI (shwN own pd d col (tN h))) 0) : wp_X5_floor t of colour d col h post := by
  unfold wp_X5_floor
  refine p_inR 7 17 (by omega) (by omega) ?_
  rw [bI_br]
  cases e : inR h 7 17
  · rw [if_neg (show ¬ false = true by decide)]
    exact p_gwN (by decide) ⟨fun _ => h0 e, fun z => absurd rfl z⟩
  have h1 := h1 e
  obtain ⟨k, rfl, hk1, hk2⟩ := inR_t e
  rw [tN_nI (by omega)] at h1
  rw [if_pos rfl]
  exact p_gw0 ⟨ne1, fun _ => m_shown hO hP ho r0 hk1 hk2 h1⟩
theorem m_floorAnew {n : Nat} {own : Nat → Nat} {pd : Nat → Nat → Nat} {of colour : Nat → Int32} {t d col h : Int32} {post : Int32 → Int32 → Prop} (hO : InvO n own) (hP : InvP n pd) (ho : RO of own) (r0 : RP colour pd 0)
    (h0 : inR h 7 17 = false → post 0 1) (h1 : inR h 7 17 = true → post (nI (shwN own pd d col (tN h))) 0) : wp_X5_floorAnew t of colour d col h post := by
  unfold wp_X5_floorAnew
  refine p_inR 7 17 (by omega) (by omega) ?_
  rw [bI_br]
  cases e : inR h 7 17
  · rw [if_neg (show ¬ false = true by decide)]
    exact p_gwN (by decide) ⟨fun _ => h0 e, fun z => absurd rfl z⟩
  have h1 := h1 e
  obtain ⟨k, rfl, hk1, hk2⟩ := inR_t e
  rw [tN_nI (by omega)] at h1
  rw [if_pos rfl]
  exact p_gw0 ⟨ne1, fun _ => m_shown hO hP ho r0 hk1 hk2 h1⟩
