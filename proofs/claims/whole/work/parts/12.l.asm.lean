/-! canGoIn, assembled -/
def wtB (own : Nat → Nat) (I : Nat → Bool) (p c w : Nat) : Bool := match besN c w with
  | none => false
  | some d => decide (own d ≠ p) && !I (own d)
def canB (own : Nat → Nat) (I : Nat → Bool) (p : Nat) : Bool := allB (fun c => !(decide (own c = p) && (wtB own I p c 1 || wtB own I p c 2))) 256
theorem m_canGoIn {n p : Nat} {own : Nat → Nat} {of isIn : Nat → Int32} {I : Nat → Bool} {post : Int32 → Prop} (hO : InvO n own) (ho : RO of own) (hi : fillB I n isIn) (hp : p < 60) (h : post (bI (canB own I p))) : wp_X5_canGoIn of isIn (nI p) post := by
  have hn := hO.2.1
  have hlt : ∀ c, c < 256 → own c < 60 := fun c hc => by have := hO.2.2.1 c hc; omega
  unfold wp_X5_canGoIn
  obtain ⟨f, hf⟩ : ∃ f : Nat → Bool, f = (fun c => !(decide (own c = p) && (wtB own I p c 1 || wtB own I p c 2))) := ⟨_, rfl⟩
  have hb : canB own I p = allB f 256 := by rw [hf]; rfl
  rw [hb] at h
  refine lp_cnt 256 (fun k (_ : Unit) => (bI (allB f k), nI k)) (fun _ _ => True) ?_ ?_ 0 () (by omega) trivial
  · rintro K k - hk - hK
    have hK := hK () trivial
    rw [allB] at hK
    show wp_X5_canGoIn_4 _ _ _ _ _ _ _
    unfold wp_X5_canGoIn_4
    dsimp only
    refine ⟨fun z => absurd z (lc_ge hk), fun _ => ?_⟩
    have ef : f k = !(decide (own k = p) && (wtB own I p k 1 || wtB own I p k 2)) := by rw [hf]
    have hok := hlt k hk
    have k94 : ∀ s : Bool, s = (wtB own I p k 1 || wtB own I p k 2) → wp_X5_canGoIn_94 of isIn (nI p) post (fun b0 b1 => K (b0, b1)) (bI s) (bI (allB f k)) (nI k) := fun s hs => by
      rw [← hs] at ef
      unfold wp_X5_canGoIn_94 wp_X5_canGoIn_120
      rw [nI_1 k, bI_br]
      cases e : allB f k <;> rw [e] at hK
      · exact hK
      · rw [if_pos rfl]
        refine ⟨lc_in hk, ?_⟩
        rw [lc_N (by omega), ho k hk]
        refine nI_br (by omega) (by omega) ?_
        split
        · rename_i z
          rw [ef, decide_eq_true z] at hK
          cases s
          · exact ⟨fun _ => hK, fun z => absurd rfl z⟩
          · exact ⟨ne1, fun _ => hK⟩
        · rename_i z
          rw [ef, decide_eq_false z] at hK
          exact hK
    rw [show (1 : Int32) = nI 1 from rfl, show (2 : Int32) = nI 2 from rfl, w_beside hk (by omega), w_beside hk (by omega)]
    have k57 : wtB own I p k 1 = false → wp_X5_canGoIn_57 of isIn (nI p) post (fun b0 b1 => K (b0, b1)) (bI (allB f k)) (nI k) (besI k 2) := fun e1 => by
      rw [e1, Bool.false_or] at k94
      unfold wp_X5_canGoIn_57
      cases hb : besN k 2 with
      | none =>
        have e2 : wtB own I p k 2 = false := by unfold wtB; rw [hb]
        rw [besI_none hb]
        exact ⟨fun _ => k94 false e2.symm, fun z => absurd rfl z⟩
      | some d =>
        have hd := (besN_adj hk hb).1
        have hod := hO.2.2.1 d hd
        have e2 : wtB own I p k 2 = (decide (own d ≠ p) && !I (own d)) := by unfold wtB; rw [hb]
        rw [besI_some hb, nI_clamp (show d < 2147483648 by omega), ho d hd, nI_clamp (show own d < 2147483648 by omega), hi _ hod]
        refine ⟨fun z => absurd z (nI_ne_m1 (by omega)), fun _ => ⟨lc_in hd, nI_br (by omega) (by omega) ?_⟩⟩
        split
        · rename_i z
          rw [decide_eq_false (show ¬ own d ≠ p by omega)] at e2
          exact k94 false e2.symm
        · rename_i z
          rw [decide_eq_true (show own d ≠ p from z), Bool.true_and] at e2
          refine ⟨lc_in hd, in60 (by omega), ?_⟩
          cases e3 : I (own d) <;> rw [e3] at e2
          · exact ⟨fun _ => k94 true e2.symm, fun z => absurd rfl z⟩
          · exact ⟨ne1, fun _ => k94 false e2.symm⟩
    cases hb : besN k 1 with
    | none =>
      have e2 : wtB own I p k 1 = false := by unfold wtB; rw [hb]
      rw [besI_none hb]
      exact ⟨fun _ => k57 e2, fun z => absurd rfl z⟩
    | some d =>
      have hd := (besN_adj hk hb).1
      have hod := hO.2.2.1 d hd
      have e2 : wtB own I p k 1 = (decide (own d ≠ p) && !I (own d)) := by unfold wtB; rw [hb]
      rw [besI_some hb, nI_clamp (show d < 2147483648 by omega), ho d hd, nI_clamp (show own d < 2147483648 by omega), hi _ hod]
      refine ⟨fun z => absurd z (nI_ne_m1 (by omega)), fun _ => ⟨lc_in hd, nI_br (by omega) (by omega) ?_⟩⟩
      split
      · rename_i z
        rw [decide_eq_false (show ¬ own d ≠ p by omega)] at e2
        exact k57 e2
      · rename_i z
        rw [decide_eq_true (show own d ≠ p from z), Bool.true_and] at e2
        refine ⟨lc_in hd, in60 (by omega), ?_⟩
        cases e3 : I (own d) <;> rw [e3] at e2
        · exact ⟨fun _ => k94 true (by rw [e2]; rfl), fun z => absurd rfl z⟩
        · exact ⟨ne1, fun _ => k57 e2⟩
  · rintro K - -
    show wp_X5_canGoIn_4 _ _ _ _ _ _ _
    unfold wp_X5_canGoIn_4
    dsimp only
    exact ⟨fun _ => ⟨bI_01 (allB f 256), h⟩, fun z => absurd lc_end z⟩
def rdyB (own : Nat → Nat) (I : Nat → Bool) (p : Nat) : Bool := pres own p && !I p && canB own I p
def asI (own : Nat → Nat) (n : Nat) : Nat → Nat → Bool
  | 0 => fun _ => false
  | k + 1 => fun p => asI own n k p || decide (p = fa_first (rdyB own (asI own n k)) n)
def asO (own : Nat → Nat) (n k : Nat) : Nat := fa_first (rdyB own (asI own n k)) n
def asA (own : Nat → Nat) (n : Nat) (place : Int32) : Int32 :=
  if allB (fun k => decide (asO own n k < n)) (fb_ct (pres own) n) && decide (0 ≤ place.toInt ∧ place.toInt < (fb_ct (pres own) n : Int)) then nI (asO own n (tN place)) else -1
/-- the least ready from j on -/
def fromJ (P : Nat → Bool) (n j : Nat) (x : Int32) : Prop := (x = -1 ∧ ∀ p, j ≤ p → p < n → P p = false) ∨ ∃ b, x = nI b ∧ j ≤ b ∧ b < n ∧ P b = true ∧ ∀ p, j ≤ p → p < b → P p = false
theorem fromJ_0 {P : Nat → Bool} {n : Nat} {x : Int32} (h : fromJ P n 0 x) : (x = -1 ∧ ¬ fa_first P n < n) ∨ (x = nI (fa_first P n) ∧ fa_first P n < n) := by
  rcases h with ⟨h1, h2⟩ | ⟨b, h1, -, h3, h4, h5⟩
  · refine Or.inl ⟨h1, fun z => ?_⟩
    have := fa_first_yes P n z
    rw [h2 _ (by omega) z] at this
    exact absurd this (by decide)
  · have e : fa_first P n = b := by
      rcases Nat.lt_trichotomy (fa_first P n) b with g | g | g
      · have := fa_first_yes P n (by omega)
        rw [h5 _ (by omega) g] at this
        exact absurd this (by decide)
      · exact g
      · have := fa_first_no P n b g
        rw [h4] at this
        exact absurd this (by decide)
    rw [e]
    exact Or.inr ⟨h1, h3⟩
theorem m_assembled {n : Nat} {own : Nat → Nat} {of many isIn order : Nat → Int32} {t p : Int32} {post : Int32 → Int32 → (Nat → Int32) → (Nat → Int32) → Prop} (hO : InvO n own) (ho : RO of own) (hm : RN many own)
    (h : ∀ isIn' order', post (asA own n p) 0 isIn' order') : wp_X5_assembled t (nI n) of many isIn order p post := by
  have hn := hO.2.1
  have hn1 := hO.1
  unfold wp_X5_assembled
  rintro _ rfl
  refine lp_cnt n (fun k (s : Nat → Int32) => (nI (fb_ct (pres own) k), nI k, (0 : Int32), s)) (fun k s => fillB (fun _ => false) k s) ?_ ?_ 0 isIn (by omega) (fillB_0 _ _)
  · rintro K k s hk hs hK
    show wp_X5_assembled_9 _ _ _ _ _ _ _ _ _ _ _ _ _
    unfold wp_X5_assembled_9 wp_X5_assembled_39
    dsimp only
    refine nI_brl (by omega) (by omega) ?_
    rw [if_neg (by omega), nI_clamp (by omega), hm k (by omega), nI_1 k]
    refine ⟨in60 (by omega), ?_⟩
    rintro _ rfl
    have hK := hK (upd s k (bI false)) (fillB_upd (S := fun _ => false) hs)
    rw [← cnt_bI] at hK
    refine ⟨in60 (by omega), many_br ?_⟩
    cases e : pres own k <;> rw [e] at hK
    · exact hK
    · exact hK
  · rintro K s hs
    show wp_X5_assembled_9 _ _ _ _ _ _ _ _ _ _ _ _ _
    unfold wp_X5_assembled_9
    dsimp only
    refine ⟨fun _ => ?_, fun z => absurd (Int32.le_refl _) z⟩
    obtain ⟨A, hA⟩ : ∃ A, A = fb_ct (pres own) n := ⟨_, rfl⟩
    have hAn : A ≤ n := by rw [hA]; exact fb_ct_le _ _
    rw [← hA]
    have eA : asA own n p = if allB (fun k => decide (asO own n k < n)) A && decide (0 ≤ p.toInt ∧ p.toInt < (A : Int)) then nI (asO own n (tN p)) else -1 := by unfold asA; rw [← hA]
    refine lp_cnt A (fun k (s : (Nat → Int32) × (Nat → Int32)) => (nI A, nI k, (0 : Int32), s.1, s.2)) (fun k s => fillB (asI own n k) n s.1 ∧ ∀ j, j < k → s.2 j = nI (asO own n j) ∧ asO own n j < n) ?_ ?_ 0 (s, order) (by omega) ⟨hs, fun j hj => absurd hj (Nat.not_lt_zero j)⟩
    · rintro K k ⟨ii, od⟩ hk ⟨hii, hod⟩ hK
      dsimp only at hii hod
      show wp_X5_assembled_49 _ _ _ _ _ _ _ _ _ _ _ _ _ _
      unfold wp_X5_assembled_49
      dsimp only
      refine nI_brl (by omega) (by omega) ?_
      rw [if_neg (by omega)]
      have e0 : nI n - 1 = iI ((n : Int) - 1 - ((0 : Nat) : Int)) := by
        rw [iI_nat, show (1 : Int32) = iI 1 from rfl, iI_sub]; exact congrArg iI (by omega)
      rw [e0]
      refine lp_cnt n (fun m (x : Int32) => (nI A, nI k, x, iI ((n : Int) - 1 - (m : Int)), (0 : Int32), ii, od)) (fun m x => fromJ (rdyB own (asI own n k)) n (n - m) x) ?_ ?_ 0 (-1) (by omega) (Or.inl ⟨rfl, fun p h1 h2 => by omega⟩)
      · rintro K2 m x hmn hx hK2
        have e5 : iI ((n : Int) - 1 - (m : Int)) = nI (n - 1 - m) := by rw [iI_nat]; exact congrArg iI (by omega)
        have e6 : nI (n - 1 - m) + (-1) = iI ((n : Int) - 1 - ((m + 1 : Nat) : Int)) := by
          rw [iI_nat, show (-1 : Int32) = iI (-1) from rfl, iI_add]; exact congrArg iI (by omega)
        show wp_X5_assembled_65 _ _ _ _ _ _ _ _ _ _ _ _ _ _ _ _ _
        unfold wp_X5_assembled_65 wp_X5_assembled_106
        dsimp only
        rw [e5, e6, nI_clamp (show n - 1 - m < 2147483648 by omega), hm _ (by omega), hii _ (by omega)]
        refine ⟨fun z => absurd z (by rw [fa_lt, nI_toInt (by omega), show (0 : Int32).toInt = 0 from rfl]; omega), fun _ => ⟨in60 (by omega), many_br ?_⟩⟩
        have step : ∀ y, (rdyB own (asI own n k) (n - 1 - m) = false ∧ y = x) ∨ (rdyB own (asI own n k) (n - 1 - m) = true ∧ y = nI (n - 1 - m)) → K2 (nI A, nI k, y, iI ((n : Int) - 1 - ((m + 1 : Nat) : Int)), 0, ii, od) := fun y hy => by
          refine hK2 y ?_
          rcases hy with ⟨e, rfl⟩ | ⟨e, rfl⟩
          · rcases hx with ⟨h1, h2⟩ | ⟨b, h1, h2, h3, h4, h5⟩
            · refine Or.inl ⟨h1, fun p g1 g2 => ?_⟩
              by_cases c : p = n - 1 - m
              · rw [c]; exact e
              · exact h2 p (by omega) g2
            · refine Or.inr ⟨b, h1, by omega, h3, h4, fun p g1 g2 => ?_⟩
              by_cases c : p = n - 1 - m
              · rw [c]; exact e
              · exact h5 p (by omega) g2
          · exact Or.inr ⟨_, rfl, by omega, by omega, e, fun p g1 g2 => by omega⟩
        have er : rdyB own (asI own n k) (n - 1 - m) = (pres own (n - 1 - m) && !asI own n k (n - 1 - m) && canB own (asI own n k) (n - 1 - m)) := rfl
        cases e1 : pres own (n - 1 - m)
        · exact step x (Or.inl ⟨by rw [er, e1]; rfl, rfl⟩)
        rw [if_pos rfl]
        refine ⟨in60 (by omega), ?_⟩
        cases e2 : asI own n k (n - 1 - m)
        · refine ⟨fun _ => ?_, fun z => absurd rfl z⟩
          refine m_canGoIn hO ho hii (by omega) ?_
          rw [bI_br]
          cases e3 : canB own (asI own n k) (n - 1 - m)
          · exact step x (Or.inl ⟨by rw [er, e1, e2, e3]; rfl, rfl⟩)
          · exact step _ (Or.inr ⟨by rw [er, e1, e2, e3]; rfl, rfl⟩)
        · exact ⟨ne1, fun _ => step x (Or.inl ⟨by rw [er, e1, e2]; rfl, rfl⟩)⟩
      · rintro K2 x hx
        show wp_X5_assembled_65 _ _ _ _ _ _ _ _ _ _ _ _ _ _ _ _ _
        unfold wp_X5_assembled_65
        dsimp only
        have e5 : iI ((n : Int) - 1 - (n : Int)) = -1 := by rw [show (-1 : Int32) = iI (-1) from rfl]; exact congrArg iI (by omega)
        rw [e5]
        refine ⟨fun _ => ?_, fun z => absurd (show (-1 : Int32) < 0 by decide) z⟩
        rw [Nat.sub_self] at hx
        rcases fromJ_0 hx with ⟨rfl, hno⟩ | ⟨rfl, hyes⟩
        · refine ⟨fun _ => ?_, fun z => absurd rfl z⟩
          have ef : allB (fun k => decide (asO own n k < n)) A = false := by
            cases e : allB (fun k => decide (asO own n k < n)) A
            · rfl
            · have := allB_iff.mp e k hk
              exact absurd (of_decide_eq_true this) hno
          rw [ef] at eA
          have := h ii od
          rw [eA] at this
          exact this
        · refine ⟨fun z => absurd z (nI_ne_m1 (by omega)), fun _ => ⟨in60 (by omega), ?_⟩⟩
          rintro _ rfl
          refine ⟨in60 (by omega), ?_⟩
          rintro _ rfl
          rw [nI_clamp (by omega), nI_clamp (by omega), nI_1 k]
          refine hK (upd ii (fa_first (rdyB own (asI own n k)) n) (bI true), upd od k (nI (fa_first (rdyB own (asI own n k)) n))) ⟨fun q hq => ?_, fun j hj => ?_⟩
          · show upd ii (fa_first (rdyB own (asI own n k)) n) (bI true) q = bI (asI own n k q || decide (q = fa_first (rdyB own (asI own n k)) n))
            by_cases c : q = fa_first (rdyB own (asI own n k)) n
            · rw [← c, upd_at, decide_eq_true rfl, Bool.or_true]
            · rw [upd_ne _ _ c, decide_eq_false c, Bool.or_false]; exact hii q hq
          · dsimp only
            by_cases c : j = k
            · rw [c, upd_at]; exact ⟨rfl, hyes⟩
            · rw [upd_ne _ _ c]; exact hod j (by omega)
    · rintro K ⟨ii, od⟩ ⟨hii, hod⟩
      dsimp only at hii hod
      show wp_X5_assembled_49 _ _ _ _ _ _ _ _ _ _ _ _ _ _
      unfold wp_X5_assembled_49
      dsimp only
      refine ⟨fun _ => ?_, fun z => absurd (Int32.le_refl _) z⟩
      have et : allB (fun k => decide (asO own n k < n)) A = true := allB_iff.mpr fun k hk => decide_eq_true (hod k hk).2
      rw [et, Bool.true_and] at eA
      have h := h ii od
      rw [eA] at h
      rw [w_in]
      have e1 : (nI A - 1).toInt = (A : Int) - 1 := pm1 (by omega)
      rw [e1, show (0 : Int32).toInt = 0 from rfl, bI_br]
      by_cases c : 0 ≤ p.toInt ∧ p.toInt < (A : Int)
      · rw [decide_eq_true c, if_pos rfl] at h
        rw [decide_eq_true (show 0 ≤ p.toInt ∧ p.toInt ≤ (A : Int) - 1 by omega), if_pos rfl]
        obtain ⟨q, hq⟩ : ∃ q, q = p.toInt.toNat := ⟨_, rfl⟩
        have hpq : p = nI q := by rw [hq, iI_nat, Int.toNat_of_nonneg c.1]; exact iI_self p
        subst hpq
        rw [tN_nI (by omega)] at h
        rw [nI_clamp (by omega), (hod q (by omega)).1]
        exact ⟨in60 (by omega), h⟩
      · rw [decide_eq_false c, if_neg (by decide)] at h
        rw [decide_eq_false (show ¬ (0 ≤ p.toInt ∧ p.toInt ≤ (A : Int) - 1) by omega), if_neg (by decide)]
        exact h
