/-! the model: cut, isTwo -/
theorem sq_m : ∀ a, a < 16 → (nI a).toInt = (a : Int) ∧ (nI a - 1).toInt = (a : Int) - 1 := by decide +kernel
def lies (S : Nat → Bool) (c : Nat) : Bool := sqI S ((c / 16 : Nat) : Int) ((c % 16 : Nat) : Int) || (sqI S (((c / 16 : Nat) : Int) - 1) ((c % 16 : Nat) : Int) || (sqI S ((c / 16 : Nat) : Int) (((c % 16 : Nat) : Int) - 1) || sqI S (((c / 16 : Nat) : Int) - 1) (((c % 16 : Nat) : Int) - 1)))
def allB (P : Nat → Bool) : Nat → Bool
  | 0 => true
  | n + 1 => allB P n && P n
theorem allB_iff {P : Nat → Bool} : ∀ {n : Nat}, allB P n = true ↔ ∀ k, k < n → P k = true
  | 0 => ⟨fun _ k h => absurd h (Nat.not_lt_zero k), fun _ => rfl⟩
  | n + 1 => by
    rw [allB, Bool.and_eq_true, allB_iff (n := n)]
    refine ⟨fun ⟨h1, h2⟩ k hk => ?_, fun h => ⟨fun k hk => h k (by omega), h n (by omega)⟩⟩
    by_cases e : k = n
    · rw [e]; exact h2
    · exact h1 k (by omega)
def anyB (P : Nat → Bool) : Nat → Bool
  | 0 => false
  | n + 1 => anyB P n || P n
theorem anyB_iff {P : Nat → Bool} : ∀ {n : Nat}, anyB P n = true ↔ ∃ k, k < n ∧ P k = true
  | 0 => ⟨fun h => Bool.noConfusion h, fun ⟨k, h, _⟩ => absurd h (Nat.not_lt_zero k)⟩
  | n + 1 => by
    rw [anyB, Bool.or_eq_true, anyB_iff (n := n)]
    refine ⟨fun h => ?_, fun ⟨k, hk, h⟩ => ?_⟩
    · rcases h with ⟨k, hk, h⟩ | h
      · exact ⟨k, by omega, h⟩
      · exact ⟨n, by omega, h⟩
    · by_cases e : k = n
      · right; rw [← e]; exact h
      · left; exact ⟨k, by omega, h⟩
def thk (S : Nat → Bool) : Bool := allB (fun c => !S c || lies S c) 256
noncomputable def cutN (S : Nat → Bool) : Nat := if tB S true && tB S false then (if thk S then 0 else 2) else 1
theorem m_cut {set : Nat → Int32} {post : Int32 → Prop} {S : Nat → Bool} (hS : fillB S 256 set) (h : post (nI (cutN S))) : wp_X5_cut set post := by
  unfold wp_X5_cut
  unfold cutN at h
  refine m_isTight hS true ?_
  rw [bI_br]
  cases ht1 : tB S true
  · rw [ht1] at h; exact h
  rw [if_pos rfl]
  refine m_isTight hS false ?_
  rw [bI_br]
  cases ht2 : tB S false
  · rw [ht1, ht2] at h; exact h
  rw [if_pos rfl]
  rw [ht1, ht2, if_pos (show (true && true) = true from rfl)] at h
  refine lp_cnt 256 (fun k (_ : Unit) => (bI (allB (fun c => !S c || lies S c) k), nI k)) (fun _ _ => True) ?_ ?_ 0 () (by omega) trivial
  · rintro K k - hk - hK
    have hK := hK () trivial
    show wp_X5_cut_22 _ _ _ _ _
    unfold wp_X5_cut_22
    refine ⟨fun z => absurd z (lc_ge hk), fun _ => ?_⟩
    rw [nrem hk, ndiv hk]
    have key : wp_X5_cut_93 set post (fun b0 b1 => K (b0, b1)) (bI (lies S k)) (bI (allB (fun c => !S c || lies S c) k)) (nI k) := by
      unfold wp_X5_cut_93 wp_X5_cut_118
      rw [bI_br, nI_1, lc_N (by omega), hS k hk, bI_br, bI_br]
      rw [allB] at hK
      cases hA : allB (fun c => !S c || lies S c) k
      · rw [hA] at hK; rw [if_neg (show ¬ false = true by decide)]; exact hK
      · rw [hA] at hK; rw [if_pos rfl]
        refine ⟨lc_in hk, ?_⟩
        cases hSk : S k
        · rw [if_neg (show ¬ false = true by decide)]; rw [hSk] at hK; exact hK
        · rw [if_pos rfl]
          cases hL : lies S k
          · rw [if_neg (show ¬ false = true by decide)]; rw [hSk, hL] at hK; exact hK
          · rw [if_pos rfl]; rw [hSk, hL] at hK; exact hK
    have q1 := sq_m (k / 16) (by omega)
    have q2 := sq_m (k % 16) (by omega)
    unfold lies at key
    refine w_isSquare hS _ _ _ ?_
    rw [bI_br, q1.1, q2.1]
    cases h1 : sqI S ((k / 16 : Nat) : Int) ((k % 16 : Nat) : Int)
    case true => rw [h1] at key; exact key
    refine w_isSquare hS _ _ _ ?_
    rw [bI_br, q1.2, q2.1]
    cases h2 : sqI S (((k / 16 : Nat) : Int) - 1) ((k % 16 : Nat) : Int)
    case true => rw [h1, h2] at key; exact key
    refine w_isSquare hS _ _ _ ?_
    rw [bI_br, q1.1, q2.2]
    cases h3 : sqI S ((k / 16 : Nat) : Int) (((k % 16 : Nat) : Int) - 1)
    case true => rw [h1, h2, h3] at key; exact key
    refine w_isSquare hS _ _ _ ?_
    rw [bI_br, q1.2, q2.2]
    cases h4 : sqI S (((k / 16 : Nat) : Int) - 1) (((k % 16 : Nat) : Int) - 1)
    · rw [h1, h2, h3, h4] at key; exact key
    · rw [h1, h2, h3, h4] at key; exact key
  · rintro K - -
    show wp_X5_cut_22 _ _ _ _ _
    unfold wp_X5_cut_22
    refine ⟨fun _ => ?_, fun z => absurd lc_end z⟩
    rw [bI_br]
    unfold thk at h
    cases hA : allB (fun c => !S c || lies S c) 256
    · rw [hA] at h; exact h
    · rw [hA] at h; exact h
/-- one side of a line -/
def sideS (P : Nat → Bool) (line : Nat) (b : Bool) (c : Nat) : Bool := P c && decide (byd c line = b)
noncomputable def twoB (P : Nat → Bool) (line : Nat) : Bool := dP (One (sideS P line true)) && dP (One (sideS P line false))
theorem one_ct {S : Nat → Bool} (h : fb_ct S 256 = 0) : dP (One S) = false := dP_f fun ⟨a, ha, hS, _⟩ => by
  rw [fb_ct_zero] at h
  have := h a ha
  rw [hS] at this
  exact absurd this (by decide)
theorem ct_le0 {S : Nat → Bool} : (nI (fb_ct S 256) ≤ 0) = (fb_ct S 256 = 0) := by
  have := fb_ct_le S 256
  rw [show (0 : Int32) = nI 0 from rfl, nI_leI (by omega) (by omega)]
  exact propext ⟨fun h => by omega, fun h => by omega⟩
theorem m_side {of set : Nat → Int32} {p : Int32} {line : Nat} {b : Bool} {post : Int32 → (Nat → Int32) → Prop} (hl : line < 32)
    (h : ∀ set', fillB (sideS (fun c => decide (of c = p)) line b) 256 set' → post (nI (fb_ct (sideS (fun c => decide (of c = p)) line b) 256)) set') : wp_X5_setSide of set p (nI line) (bI b) post := by
  refine m_setSide _ hl (fun c hc => ?_) h
  unfold sideS
  congr 1
  cases byd c line <;> cases b <;> rfl
theorem m_isTwo {of set seen pile : Nat → Int32} {p : Int32} {line : Nat} {post : Int32 → (Nat → Int32) → (Nat → Int32) → (Nat → Int32) → Prop} (hl : line < 32)
    (h : ∀ set' seen' pile', post (bI (twoB (fun c => decide (of c = p)) line)) set' seen' pile') : wp_X5_isTwo of set seen pile p (nI line) post := by
  unfold wp_X5_isTwo
  unfold twoB at h
  refine m_side (b := true) hl fun s1 f1 => ?_
  refine ⟨fun z => ?_, fun z => ?_⟩
  · rw [ct_le0] at z
    have := h s1 seen pile
    rw [one_ct z] at this; exact this
  refine m_isOne _ f1 fun s2 s3 => ?_
  rw [bI_br]
  cases h1 : dP (One (sideS (fun c => decide (of c = p)) line true))
  · have := h s1 s2 s3
    rw [h1] at this; exact this
  refine m_side (b := false) hl fun s4 f4 => ?_
  refine ⟨fun z => ?_, fun z => ?_⟩
  · rw [ct_le0] at z
    have := h s4 s2 s3
    rw [h1, one_ct z] at this; exact this
  refine m_isOne _ f4 fun s5 s6 => ?_
  rw [bI_br]
  have := h s4 s5 s6
  rw [h1] at this
  cases h2 : dP (One (sideS (fun c => decide (of c = p)) line false)) <;> rw [h2] at this <;> exact this
