/-! the class: Laying -/
theorem bef_trans {own : Nat → Nat} {p q r : Nat} (h1 : bef own p q) (h2 : bef own q r) : bef own p r := by unfold bef at *; omega
theorem bef_total {own : Nat → Nat} {p q : Nat} (h : p ≠ q) (h1 : ¬ bef own p q) : bef own q p := by unfold bef at *; omega
theorem QS_skip {k m its : Nat} {own : Nat → Nat} {pd : Nat → Nat → Nat} {Q : Nat → Nat} (h : QS k own pd its m Q) (hc : cand own pd its k = false) : QS (k + 1) own pd its m Q := by
  obtain ⟨h1, h2, h3⟩ := h
  refine ⟨fun i hi => ⟨by have := (h1 i hi).1; omega, (h1 i hi).2⟩, fun p hp hcp => ?_, h3⟩
  rcases Nat.lt_or_ge p k with g | g
  · exact h2 p g hcp
  · have e : p = k := by omega
    rw [e, hc] at hcp; exact absurd hcp (by decide)
def insQ (Q : Nat → Nat) (j p : Nat) : Nat → Nat := fun i => if i < j then Q i else if i = j then p else Q (i - 1)
theorem QS_ins {k m its j : Nat} {own : Nat → Nat} {pd : Nat → Nat → Nat} {Q : Nat → Nat} (h : QS k own pd its m Q) (hc : cand own pd its k = true) (hj : j ≤ m) (ha : ∀ i, j ≤ i → i < m → bef own k (Q i)) (hb : 0 < j → ¬ bef own k (Q (j - 1))) : QS (k + 1) own pd its (m + 1) (insQ Q j k) := by
  obtain ⟨h1, h2, h3⟩ := h
  have hb2 : ∀ i, i < j → bef own (Q i) k := fun i hi => by
    have g1 : bef own (Q (j - 1)) k := bef_total (by have := (h1 (j - 1) (by omega)).1; omega) (hb (by omega))
    by_cases e : i = j - 1
    · rw [e]; exact g1
    · exact bef_trans (h3 i (j - 1) (by omega) (by omega)) g1
  have q1 : ∀ i, i < j → insQ Q j k i = Q i := fun i hi => if_pos hi
  have q2 : insQ Q j k j = k := by unfold insQ; rw [if_neg (by omega), if_pos rfl]
  have q3 : ∀ i, j < i → insQ Q j k i = Q (i - 1) := fun i hi => by unfold insQ; rw [if_neg (by omega), if_neg (by omega)]
  refine ⟨fun i hi => ?_, fun p hp hcp => ?_, fun i i' hii hi' => ?_⟩
  · rcases Nat.lt_trichotomy i j with g | g | g
    · rw [q1 i g]; exact ⟨by have := (h1 i (by omega)).1; omega, (h1 i (by omega)).2⟩
    · rw [g, q2]; exact ⟨by omega, hc⟩
    · rw [q3 i g]; exact ⟨by have := (h1 (i - 1) (by omega)).1; omega, (h1 (i - 1) (by omega)).2⟩
  · rcases Nat.lt_or_ge p k with g | g
    · obtain ⟨i, hi, e⟩ := h2 p g hcp
      rcases Nat.lt_or_ge i j with g2 | g2
      · exact ⟨i, by omega, by rw [q1 i g2]; exact e⟩
      · exact ⟨i + 1, by omega, by rw [q3 _ (by omega), Nat.add_sub_cancel]; exact e⟩
    · exact ⟨j, by omega, by rw [q2]; omega⟩
  · rcases Nat.lt_trichotomy i j with g | g | g
    · rw [q1 i g]
      rcases Nat.lt_trichotomy i' j with g' | g' | g'
      · rw [q1 i' g']; exact h3 i i' hii (by omega)
      · rw [g', q2]; exact hb2 i g
      · rw [q3 i' g']
        exact bef_trans (hb2 i g) (ha (i' - 1) (by omega) (by omega))
    · rw [g, q2, q3 i' (by omega)]; exact ha (i' - 1) (by omega) (by omega)
    · rw [q3 i g, q3 i' (by omega)]; exact h3 (i - 1) (i' - 1) (by omega) (by omega)
theorem p_isNum {a : Nat} (ha : a < 60) {post : Int32 → Prop} (h : post 1) : wp_X4_isNumber (nI a) post := by
  refine k_isNumber ?_
  rw [nI_toInt (by omega), decide_eq_true (show (0 : Int) ≤ (a : Int) ∧ (a : Int) < 60 by omega)]
  exact h
noncomputable def befB (own : Nat → Nat) (p q : Nat) : Bool := dP (bef own p q)
theorem k_isLarger {own : Nat → Nat} {hs ws : Nat → Int32} {p q : Nat} {post : Int32 → Prop} (hp : p < 60) (hq : q < p) (h1 : hs p = nI (hgt own p)) (h2 : hs q = nI (hgt own q)) (h3 : ws p = nI (wid own p)) (h4 : ws q = nI (wid own q)) (h : post (bI (befB own p q))) : wp_X1_isLarger hs ws (nI p) (nI q) post := by
  have a1 : hgt own p ≤ 16 := ext_le _ _
  have a2 : hgt own q ≤ 16 := ext_le _ _
  have a3 : wid own p ≤ 16 := ext_le _ _
  have a4 : wid own q ≤ 16 := ext_le _ _
  unfold wp_X1_isLarger
  refine p_isNum hp ⟨fun z => absurd z (by decide), fun _ => p_isNum (by omega) ⟨fun z => absurd z (by decide), fun _ => ?_⟩⟩
  rw [nI_clamp (by omega), nI_clamp (by omega), h1, h2, h3, h4]
  refine ⟨in60 hp, in60 (by omega), breq2 (by omega) (by omega) (fun z => ⟨in60 hp, in60 (by omega), brle2 (by omega) (by omega) (fun z2 => ?_) (fun z2 => ?_)⟩) (fun z => ⟨in60 hp, in60 (by omega), brle2 (by omega) (by omega) (fun z2 => ?_) (fun z2 => ?_)⟩)⟩
  · have e : befB own p q = false := dP_f (by unfold bef; omega)
    rw [e] at h; exact h
  · have e : befB own p q = true := dP_t (by unfold bef; omega)
    rw [e] at h; exact h
  · have e : befB own p q = false := dP_f (by unfold bef; omega)
    rw [e] at h; exact h
  · have e : befB own p q = true := dP_t (by unfold bef; omega)
    rw [e] at h; exact h
/-- the queue's arrays -/
def rQ (own : Nat → Nat) (m : Nat) (Q : Nat → Nat) (f hs ws : Nat → Int32) : Prop := (∀ i, i < m → f i = nI (Q i)) ∧ (∀ i, i < m → hs (Q i) = nI (hgt own (Q i))) ∧ ∀ i, i < m → ws (Q i) = nI (wid own (Q i))
theorem k_enqueue {k m its : Nat} {own : Nat → Nat} {pd : Nat → Nat → Nat} {Q : Nat → Nat} {f hs ws : Nat → Int32} {post : (Nat → Int32) → (Nat → Int32) → (Nat → Int32) → Int32 → Prop} (hQ : QS k own pd its m Q) (hk : k < 60) (hmk : m ≤ k) (hc : cand own pd its k = true) (hr : rQ own m Q f hs ws)
    (h : ∀ Q' f' hs' ws', QS (k + 1) own pd its (m + 1) Q' → rQ own (m + 1) Q' f' hs' ws' → post f' hs' ws' (nI (m + 1))) : wp_X1_enqueue f hs ws (nI m) (nI k) (nI (hgt own k)) (nI (wid own k)) post := by
  obtain ⟨r1, r2, r3⟩ := hr
  unfold wp_X1_enqueue
  refine p_isNum hk ⟨fun z => absurd z (by decide), fun _ => ⟨fun z => absurd z (nI_pos (by omega)), fun _ => brlt2 (b := 60) (by omega) (by omega) (fun _ => ⟨in60 hk, ?_⟩) (fun z => absurd (show m < 60 by omega) z)⟩⟩
  rw [nI_clamp (show k < 2147483648 by omega)]
  intro h1 e1
  refine ⟨in60 hk, ?_⟩
  intro w1 e2
  have hlt : ∀ i, i < m → Q i < k := fun i hi => (hQ.1 i hi).1
  have g1 : ∀ i, i < m → h1 (Q i) = nI (hgt own (Q i)) := fun i hi => by rw [e1, upd_ne _ _ (by have := hlt i hi; omega)]; exact r2 i hi
  have g2 : ∀ i, i < m → w1 (Q i) = nI (wid own (Q i)) := fun i hi => by rw [e2, upd_ne _ _ (by have := hlt i hi; omega)]; exact r3 i hi
  have g3 : h1 k = nI (hgt own k) := by rw [e1, upd_at]
  have g4 : w1 k = nI (wid own k) := by rw [e2, upd_at]
  refine lp_inv (fun s => ∃ (j : Nat) (g : Nat → Int32), s = (nI j, g, h1, w1) ∧ j ≤ m ∧ (∀ i, i < j → g i = nI (Q i)) ∧ (∀ i, j < i → i ≤ m → g i = nI (Q (i - 1))) ∧ ∀ i, j ≤ i → i < m → bef own k (Q i)) (fun s => s.1.toNatClampNeg) ?_ _ ⟨m, f, rfl, Nat.le_refl m, r1, fun i h1 h2 => absurd h1 (by omega), fun i h1 h2 => absurd h1 (by omega)⟩
  rintro K _ ⟨j, g, rfl, hj, ga, gb, gc⟩ hK
  have put : (0 < j → ¬ bef own k (Q (j - 1))) → wp_X1_enqueue_88 f hs ws (nI m) (nI k) (nI (hgt own k)) (nI (wid own k)) post (nI j) g h1 w1 := fun hb => by
    unfold wp_X1_enqueue_88
    rw [nI_clamp (show j < 2147483648 by omega), nI_1 m]
    refine ⟨in60 (by omega), ?_⟩
    rintro _ rfl _ rfl
    refine h (insQ Q j k) _ _ _ (QS_ins hQ hc hj gc hb) ⟨fun i hi => ?_, fun i hi => ?_, fun i hi => ?_⟩
    · unfold insQ
      rcases Nat.lt_trichotomy i j with q | q | q
      · rw [upd_ne _ _ (by omega), if_pos q]; exact ga i q
      · rw [q, upd_at, if_neg (by omega), if_pos rfl]
      · rw [upd_ne _ _ (by omega), if_neg (by omega), if_neg (by omega)]; exact gb i q (by omega)
    · unfold insQ
      split
      · exact g1 i (by omega)
      · split
        · exact g3
        · exact g1 (i - 1) (by omega)
    · unfold insQ
      split
      · exact g2 i (by omega)
      · split
        · exact g4
        · exact g2 (i - 1) (by omega)
  show wp_X1_enqueue_44 _ _ _ _ _ _ _ _ _ _ _ _ _
  unfold wp_X1_enqueue_44
  dsimp only
  refine brle2 (b := 0) (by omega) (by omega) (fun z => put (fun z2 => absurd z2 (by omega))) (fun z => ?_)
  have ej : nI j - 1 = nI (j - 1) := by rw [show (1 : Int32) = nI 1 from rfl, pk_sub (by omega)]
  have ej2 : nI j + (-1) = nI (j - 1) := by
    have := pk_m1 (j - 1)
    rw [show j - 1 + 1 = j by omega] at this; exact this
  rw [ej, ej2, nI_clamp (show j - 1 < 2147483648 by omega), nI_clamp (show j < 2147483648 by omega), ga (j - 1) (by omega)]
  refine ⟨in60 (by omega), k_isLarger hk (hlt _ (by omega)) g3 (g1 _ (by omega)) g4 (g2 _ (by omega)) ?_⟩
  rw [bI_br]
  cases e : befB own k (Q (j - 1))
  · rw [if_neg (by decide)]
    refine put fun _ hb => ?_
    rw [show befB own k (Q (j - 1)) = true from dP_t hb] at e
    exact absurd e (by decide)
  · rw [if_pos rfl]
    refine ⟨in60 (by omega), in60 (by omega), ?_⟩
    rintro _ rfl
    refine hK _ ⟨j - 1, _, rfl, by omega, fun i hi => ?_, fun i hi hi2 => ?_, fun i hi hi2 => ?_⟩ ?_
    · rw [upd_ne _ _ (by omega)]; exact ga i (by omega)
    · by_cases q : i = j
      · rw [q, upd_at]
      · rw [upd_ne _ _ q]; exact gb i (by omega) hi2
    · by_cases q : i = j - 1
      · rw [q]; exact dP_iff.mp e
      · exact gc i (by omega) hi2
    · dsimp only
      rw [nI_clamp (show j - 1 < 2147483648 by omega), nI_clamp (show j < 2147483648 by omega)]; omega
/-- the sheets' numbers -/
def rLay (L : LayS) (sp : Nat → Int32) (sh bo he en : Int32) : Prop := (∀ p, p < 60 → sp p = optI (L.2.2.2.2 p)) ∧ sh = nI L.1 ∧ (L.1 ≠ 0 → bo = nI L.2.1 ∧ he = nI L.2.2.1 ∧ en = nI L.2.2.2.1)
theorem k_layOne {sw p : Nat} {own : Nat → Nat} {L : LayS} {hs ws sp : Nat → Int32} {sh bo he en : Int32} {post : (Nat → Int32) → Int32 → Int32 → Int32 → Int32 → Prop} (hsw : sw ≤ 40) (hp : p < 60) (hL : rLay L sp sh bo he en) (l1 : L.1 ≤ 60) (l2 : L.2.1 + L.2.2.1 ≤ 20) (l3 : L.2.2.2.1 ≤ 40) (h1 : hs p = nI (hgt own p)) (h2 : ws p = nI (wid own p))
    (h : ∀ sp' sh' bo' he' en', rLay (lay1 sw (hgt own p) (wid own p) p L) sp' sh' bo' he' en' → post sp' sh' bo' he' en') : wp_X1_layOne hs ws sp sh bo he en (nI p) (nI sw) post := by
  have a1 : hgt own p ≤ 16 := ext_le _ _
  have a3 : wid own p ≤ 16 := ext_le _ _
  obtain ⟨r1, r2, r3⟩ := hL
  unfold lay1 at h
  unfold wp_X1_layOne
  refine p_isNum hp ⟨fun z => absurd z (by decide), fun _ => ⟨in60 hp, ?_⟩⟩
  rw [nI_clamp (show p < 2147483648 by omega), h2]
  refine brle2 (by omega) (by omega) (fun z => ?_) (fun z => ?_)
  case refine_2 =>
    rw [if_neg z] at h
    exact h _ _ _ _ _ ⟨r1, r2, r3⟩
  rw [if_pos z] at h
  -- what is laid at last
  have put : ∀ S B E T X : Nat, 1 ≤ S → S ≤ 61 → B ≤ 40 → E ≤ 40 → X = 10000 * (S - 1) + 100 * B + E → (∀ sp' sh' bo' he' en', rLay (S, B, T, E + wid own p, setO L.2.2.2.2 p X) sp' sh' bo' he' en' → post sp' sh' bo' he' en') → wp_X1_layOne_50 hs ws sp sh bo he en (nI p) (nI sw) post (nI S) (nI B) (nI T) (nI E) := fun S B E T X g1 g2 g3 g4 hX hh => by
    unfold wp_X1_layOne_50
    rw [nI_clamp (show p < 2147483648 by omega), h2, show (1 : Int32) = nI 1 from rfl, pk_sub g1, show (10000 : Int32) = nI 10000 from rfl, show (100 : Int32) = nI 100 from rfl, pk_mul, pk_mul, nI_add, nI_add, nI_add, ← hX]
    refine ⟨in60 hp, ?_⟩
    rintro _ rfl
    refine ⟨in60 hp, ?_⟩
    rintro _ rfl
    refine hh _ _ _ _ _ ⟨fun q hq => ?_, rfl, fun _ => ⟨rfl, rfl, rfl⟩⟩
    dsimp only
    by_cases e : q = p
    · rw [e, upd_at, setO_at]; rfl
    · rw [upd_ne _ _ e, setO_ne _ e]; exact r1 q hq
  have open_ : wp_X1_layOne_40 hs ws sp sh bo he en (nI p) (nI sw) post ∨ ¬ (L.1 = 0 ∨ sw < L.2.2.2.1 + wid own p) := by
    by_cases c : L.1 = 0 ∨ sw < L.2.2.2.1 + wid own p
    · left
      unfold wp_X1_layOne_40
      rw [nI_clamp (show p < 2147483648 by omega), h1]
      refine ⟨in60 hp, ?_⟩
      unfold wp_X1_openShelf wp_X1_openShelf_25 wp_X1_openShelf_48
      have new : (L.1 = 0 ∨ (sw < L.2.2.2.1 + wid own p ∧ 20 < L.2.1 + L.2.2.1 + hgt own p)) → wp_X1_layOne_50 hs ws sp sh bo he en (nI p) (nI sw) post (sh + 1) 0 (nI (hgt own p)) 0 := fun g => by
        rw [if_pos g] at h
        rw [r2, nI_1]
        refine put (L.1 + 1) 0 0 (hgt own p) (10000 * L.1) (by omega) (by omega) (by omega) (by omega) (by omega) ?_
        rw [Nat.zero_add]; exact h
      rw [r2] at new ⊢
      refine breq2 (b := 0) (by omega) (by omega) (fun z0 => ?_) (fun z0 => ?_)
      · rintro _ rfl _ rfl _ rfl _ rfl
        exact new (Or.inl z0)
      · obtain ⟨b1, b2, b3⟩ := r3 z0
        rw [b1, b2, nI_add, nI_add]
        rw [b1, b2] at new put
        refine brle2 (b := 20) (by omega) (by omega) (fun z1 => ?_) (fun z1 => ?_)
        · rintro _ rfl _ rfl _ rfl
          have c2 : sw < L.2.2.2.1 + wid own p := by omega
          rw [if_neg (show ¬ (L.1 = 0 ∨ (sw < L.2.2.2.1 + wid own p ∧ 20 < L.2.1 + L.2.2.1 + hgt own p)) by omega), if_pos c2] at h
          rw [r2] at put
          refine put L.1 (L.2.1 + L.2.2.1) 0 (hgt own p) (10000 * (L.1 - 1) + 100 * (L.2.1 + L.2.2.1)) (by omega) (by omega) (by omega) (by omega) (by omega) ?_
          rw [Nat.zero_add]; exact h
        · rintro _ rfl _ rfl _ rfl _ rfl
          exact new (Or.inr ⟨by omega, by omega⟩)
    · exact Or.inr c
  rw [r2]
  rw [r2] at open_ put
  refine breq2 (b := 0) (by omega) (by omega) (fun z0 => ?_) (fun z0 => ⟨in60 hp, ?_⟩)
  · rcases open_ with g | g
    · exact g
    · exact absurd (Or.inl z0) g
  · obtain ⟨b1, b2, b3⟩ := r3 z0
    rw [b3] at open_ put ⊢
    rw [nI_add]
    refine brle2 (by omega) (by omega) (fun z1 => ?_) (fun z1 => ?_)
    · rw [b1, b2] at put ⊢
      rw [if_neg (show ¬ (L.1 = 0 ∨ (sw < L.2.2.2.1 + wid own p ∧ 20 < L.2.1 + L.2.2.1 + hgt own p)) by omega), if_neg (show ¬ sw < L.2.2.2.1 + wid own p by omega)] at h
      exact put L.1 L.2.1 L.2.2.2.1 L.2.2.1 _ (by omega) (by omega) (by omega) (by omega) rfl h
    · rcases open_ with g | g
      · exact g
      · exact absurd (Or.inr (by omega)) g
theorem k_layAll {n m its sw : Nat} {own : Nat → Nat} {pd : Nat → Nat → Nat} {Q : Nat → Nat} {f hs ws sp : Nat → Int32} {bo he en : Int32} {post : (Nat → Int32) → Int32 → Int32 → Int32 → Int32 → Prop} (hn : n ≤ 60) (hm : m ≤ 60) (hsw : sw ≤ 40) (hQ : QS n own pd its m Q) (hr : rQ own m Q f hs ws) (hsp : ∀ p, p < 60 → sp p = -1)
    (h : ∀ sp' bo' he' en', (∀ p, p < 60 → sp' p = optI ((layF own sw Q m).2.2.2.2 p)) → post sp' (nI (layF own sw Q m).1) bo' he' en') : wp_X1_layAll f hs ws sp (nI m) 0 bo he en (nI sw) post := by
  unfold wp_X1_layAll
  refine lp_cnt m (fun k (t : (Nat → Int32) × Int32 × Int32 × Int32 × Int32) => (nI k, t)) (fun k t => rLay (layF own sw Q k) t.1 t.2.1 t.2.2.1 t.2.2.2.1 t.2.2.2.2) ?_ ?_ 0 (sp, 0, bo, he, en) (by omega) ⟨hsp, rfl, fun z => absurd rfl z⟩
  · rintro K k ⟨s1, s2, s3, s4, s5⟩ hk hL hK
    dsimp only at hL
    show wp_X1_layAll_2 _ _ _ _ _ _ _ _ _ _ _ _ _ _ _ _ _ _
    unfold wp_X1_layAll_2
    dsimp only
    refine brle2 (by omega) (by omega) (fun z => absurd z (by omega)) (fun _ => brle2 (a := 60) (by omega) (by omega) (fun z => absurd z (by omega)) (fun _ => ⟨in60 (by omega), ?_⟩))
    rw [nI_clamp (show k < 2147483648 by omega), hr.1 k hk, nI_1 k]
    have hq := (hQ.1 k hk).1
    obtain ⟨v1, v2, v3⟩ := layF_inv (own := own) (Q := Q) hsw (k := k)
    refine k_layOne hsw (by omega) hL (by omega) v2 v3 (hr.2.1 k hk) (hr.2.2 k hk) fun s1' s2' s3' s4' s5' hL' => ?_
    exact hK (s1', s2', s3', s4', s5') hL'
  · rintro K ⟨s1, s2, s3, s4, s5⟩ hL
    dsimp only at hL
    show wp_X1_layAll_2 _ _ _ _ _ _ _ _ _ _ _ _ _ _ _ _ _ _
    unfold wp_X1_layAll_2
    dsimp only
    refine ⟨fun _ => ?_, fun z => absurd (Int32.le_refl _) z⟩
    rw [hL.2.1]
    exact h _ _ _ _ hL.1
theorem k_spotOf {L : LayS} {sp : Nat → Int32} {p : Nat} {post : Int32 → Prop} (hp : p < 60) (hL : ∀ p, p < 60 → sp p = optI (L.2.2.2.2 p)) (h : post (optI (L.2.2.2.2 p))) : wp_X1_spotOf sp (nI p) post := by
  unfold wp_X1_spotOf
  refine p_isNum hp ⟨fun z => absurd z (by decide), fun _ => ⟨in60 hp, ?_⟩⟩
  rw [nI_clamp (show p < 2147483648 by omega), hL p hp]; exact h
