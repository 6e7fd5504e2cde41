/-! the model's search: isOne -/
theorem ct_add {V : Nat → Bool} {d n : Nat} (hd : d < n) (hV : V d = false) : fb_ct (fun k => V k || decide (k = d)) n = fb_ct V n + 1 := by
  have h := fb_ct_upd V true hd
  rw [hV] at h
  simp only [Bool.false_eq_true, if_false, if_true, Nat.add_zero] at h
  rw [← h]
  exact fb_ct_cong (fun k _ => by by_cases e : k = d <;> simp [e])
theorem ct_lt {V : Nat → Bool} {d n : Nat} (hd : d < n) (hV : V d = false) : fb_ct V n < n := by
  have h := ct_add hd hV
  have h2 := fb_ct_le (fun k => V k || decide (k = d)) n
  omega
/-- what holds all through the search -/
def DI (S V : Nat → Bool) (a hi : Nat) (pile seen : Nat → Int32) : Prop := V a = true ∧ (∀ c, c < 256 → V c = true → S c = true) ∧ (∀ c, c < 256 → V c = true → Rch S a c) ∧ hi ≤ fb_ct V 256 ∧ (∀ i, i < hi → ∃ c, c < 256 ∧ pile i = nI c ∧ V c = true) ∧ fillB V 256 seen
def FRd (S V : Nat → Bool) (hi : Nat) (pile : Nat → Int32) (c : Nat) : Prop := (∃ i, i < hi ∧ pile i = nI c) ∨ ∀ d, d < 256 → adj c d → S d = true → V d = true
def dfsS (S : Nat → Bool) (a : Nat) (s : Int32 × Int32 × Int32 × (Nat → Int32) × (Nat → Int32)) : Prop := ∃ (V : Nat → Bool) (hi : Nat) (seen pile : Nat → Int32), s = (nI hi, nI (fb_ct S 256), nI (fb_ct V 256), seen, pile) ∧ DI S V a hi pile seen ∧ ∀ c, c < 256 → V c = true → FRd S V hi pile c
theorem m_dfs {set seen0 pile0 : Nat → Int32} {post : Int32 → (Nat → Int32) → (Nat → Int32) → Prop} {S : Nat → Bool} (hS : fillB S 256 set) {a : Nat} (ha : a < 256) (hSa : S a = true) (h : ∀ seen' pile', post (bI (dP (One S))) seen' pile') :
    ∀ s, dfsS S a s → lp (lF_X5_isOne_86 set seen0 pile0 post) s := by
  refine lp_inv (dfsS S a) (fun s => 2 * (256 - s.2.2.1.toNatClampNeg) + s.1.toNatClampNeg) ?_
  rintro K _ ⟨V, hi, seen, pile, rfl, hD, hF⟩ hK
  obtain ⟨hVa, hVS, hVR, hhi, hst, hsn⟩ := id hD
  have hcV : fb_ct V 256 ≤ 256 := fb_ct_le V 256
  have hcS : fb_ct S 256 ≤ 256 := fb_ct_le S 256
  show wp_X5_isOne_86 _ _ _ _ _ _ _ _ _ _
  unfold wp_X5_isOne_86
  cases hi with
  | zero =>
    have hcl : ∀ c d, c < 256 → d < 256 → V c = true → adj c d → S d = true → V d = true := fun c d hc hd h1 h2 h3 => by
      rcases hF c hc h1 with ⟨i, hi, -⟩ | h4
      · exact absurd hi (Nat.not_lt_zero _)
      · exact h4 d hd h2 h3
    have e1 : One S ↔ nI (fb_ct V 256) = nI (fb_ct S 256) := by
      rw [nI_eq (by omega) (by omega), ct_eq_iff hVS]
      exact one_iff ha hSa hVa hVR hcl
    refine ⟨fun _ => ⟨fun e => ?_, fun e => ?_⟩, fun z => absurd (show nI 0 ≤ 0 by decide) z⟩
    · have k := h seen pile
      rw [dP_t (e1.mpr e)] at k
      exact k
    · have k := h seen pile
      rw [dP_f (fun z => e (e1.mp z))] at k
      exact k
  | succ h' =>
    have e0 : nI (h' + 1) + (-1) = nI h' := pk_m1 h'
    rw [e0]
    refine ⟨fun z => absurd z (by rw [show (0 : Int32) = nI 0 from rfl, nI_leI (by omega) (by omega)]; omega), fun _ => ⟨vp_in_nI (by omega) (by omega), ?_⟩⟩
    intro y4 e4
    dsimp only at e4
    rw [nI_clamp (by omega)] at e4
    obtain ⟨at_, hat, hpat, hVat⟩ := hst h' (by omega)
    rw [hpat] at e4
    subst e4
    refine lp_cnt 4 (fun k (t : Nat × (Nat → Bool) × (Nat → Int32) × (Nat → Int32)) => (nI t.1, nI (fb_ct S 256), nI (fb_ct t.2.1 256), nI at_, nI k, t.2.2.1, t.2.2.2))
      (fun k t => DI S t.2.1 a t.1 t.2.2.2 t.2.2.1 ∧ t.2.1 at_ = true ∧ t.1 < fb_ct t.2.1 256 ∧ 2 * (256 - fb_ct t.2.1 256) + t.1 ≤ 2 * (256 - fb_ct V 256) + h' ∧ (∀ c, c < 256 → t.2.1 c = true → c ≠ at_ → FRd S t.2.1 t.1 t.2.2.2 c) ∧ ∀ w, w < k → ∀ d, besN at_ w = some d → S d = true → t.2.1 d = true) ?_ ?_ 0 (h', V, seen, pile) (by omega) ?_
    · -- one way
      rintro K4 k ⟨hi, V', seen', pile'⟩ hk ⟨hD', hVat', hlt, hμ, hF', hw⟩ hK4
      dsimp only at hD' hVat' hlt hμ hF' hw
      obtain ⟨hVa', hVS', hVR', hhi', hst', hsn'⟩ := id hD'
      have hcV' : fb_ct V' 256 ≤ 256 := fb_ct_le V' 256
      show wp_X5_isOne_104 _ _ _ _ _ _ _ _ _ _ _ _ _
      unfold wp_X5_isOne_104
      refine ⟨fun z => absurd z (by rw [show (4 : Int32) = nI 4 from rfl, nI_leI (by omega) (by omega)]; omega), fun _ => ?_⟩
      rw [w_beside hat hk, nI_1]
      have stay : (∀ d, besN at_ k = some d → S d = true → V' d = true) → K4 (nI hi, nI (fb_ct S 256), nI (fb_ct V' 256), nI at_, nI (k + 1), seen', pile') := fun hd =>
        hK4 (hi, V', seen', pile') ⟨hD', hVat', hlt, hμ, hF', fun w hw' d h1 h2 => by
          rcases Nat.lt_or_ge w k with q | q
          · exact hw w q d h1 h2
          · have : w = k := by omega
            subst this
            exact hd d h1 h2⟩
      cases hb : besN at_ k with
      | none =>
        rw [besI_none hb]
        exact ⟨fun _ => stay (fun d h1 _ => by rw [hb] at h1; cases h1), fun z => absurd rfl z⟩
      | some d =>
        obtain ⟨hd, hadj⟩ := besN_adj hat hb
        rw [besI_some hb]
        refine ⟨fun z => absurd z (nI_ne_m1 (by omega)), fun _ => ⟨vp_in_nI hd (by omega), ?_⟩⟩
        dsimp only
        rw [nI_clamp (show d < 2 ^ 31 by omega), hS d hd]
        cases hSd : S d with
        | false => exact ⟨fun _ => stay (fun d' h1 h2 => by rw [hb] at h1; cases h1; rw [hSd] at h2; cases h2), fun z => absurd rfl z⟩
        | true =>
          refine ⟨fun z => absurd z (by decide), fun _ => ⟨vp_in_nI hd (by omega), ?_⟩⟩
          rw [hsn' d hd]
          cases hVd : V' d with
          | true => exact ⟨fun z => absurd z (by decide), fun _ => stay (fun d' h1 _ => by rw [hb] at h1; cases h1; exact hVd)⟩
          | false =>
            refine ⟨fun _ => ⟨vp_in_nI hd (by omega), ?_⟩, fun z => absurd rfl z⟩
            intro s1 es1
            have hfull := ct_lt hd hVd
            refine ⟨vp_in_nI (by omega) (by omega), ?_⟩
            intro p1 ep1
            rw [nI_clamp (by omega)] at ep1
            rw [nI_1, nI_1]
            have hct := ct_add hd hVd
            rw [← hct]
            refine hK4 (hi + 1, (fun c => V' c || decide (c = d)), s1, p1) ⟨⟨by simp [hVa'], ?_, ?_, ?_, ?_, ?_⟩, by simp [hVat'], ?_, ?_, ?_, ?_⟩
            · intro c hc hVc
              by_cases e : c = d
              · rw [e]; exact hSd
              · simp [e] at hVc; exact hVS' c hc hVc
            · intro c hc hVc
              by_cases e : c = d
              · rw [e]; exact (hVR' at_ hat hVat').step hat hd hadj hSd
              · simp [e] at hVc; exact hVR' c hc hVc
            · show hi + 1 ≤ fb_ct (fun k => V' k || decide (k = d)) 256
              omega
            · intro i hi2
              dsimp only at hi2 ⊢
              rw [ep1]
              by_cases e : i = hi
              · refine ⟨d, hd, ?_, by simp⟩
                rw [e, upd_at]
              · obtain ⟨c, h1, h2, h3⟩ := hst' i (by omega)
                exact ⟨c, h1, by rw [upd_ne _ _ e]; exact h2, by simp [h3]⟩
            · intro c hc
              dsimp only
              rw [es1, nar_1]
              by_cases e : c = d
              · rw [e, upd_at]; simp [bI]
              · rw [upd_ne _ _ e, hsn' c hc]; simp [e]
            · show hi + 1 < fb_ct (fun k => V' k || decide (k = d)) 256
              omega
            · show 2 * (256 - fb_ct (fun k => V' k || decide (k = d)) 256) + (hi + 1) ≤ _
              omega
            · intro c hc hVc hne
              dsimp only at hVc ⊢
              by_cases e : c = d
              · left
                exact ⟨hi, by omega, by rw [ep1, upd_at, e]⟩
              · simp [e] at hVc
                rcases hF' c hc hVc hne with ⟨i, h1, h2⟩ | h4
                · left
                  exact ⟨i, by omega, by rw [ep1, upd_ne _ _ (by omega)]; exact h2⟩
                · right
                  intro d' g1 g2 g3
                  simp [h4 d' g1 g2 g3]
            · intro w hw' d' h1 h2
              dsimp only
              rcases Nat.lt_or_ge w k with q | q
              · simp [hw w q d' h1 h2]
              · have : w = k := by omega
                subst this
                rw [hb] at h1
                cases h1
                simp
    · -- all four ways
      rintro K4 ⟨hi, V', seen', pile'⟩ ⟨hD', hVat', hlt, hμ, hF', hw⟩
      dsimp only at hD' hVat' hlt hμ hF' hw
      have hcV' : fb_ct V' 256 ≤ 256 := fb_ct_le V' 256
      show wp_X5_isOne_104 _ _ _ _ _ _ _ _ _ _ _ _ _
      unfold wp_X5_isOne_104
      refine ⟨fun _ => ?_, fun z => absurd (show (4 : Int32) ≤ nI 4 by decide) z⟩
      refine hK _ ⟨V', hi, seen', pile', rfl, hD', fun c hc hVc => ?_⟩ ?_
      · by_cases e : c = at_
        · right
          intro d hd hadj hSd
          rw [e] at hadj
          obtain ⟨w, hw4, hb⟩ := adj_besN hat hd hadj
          exact hw w hw4 d hb hSd
        · exact hF' c hc hVc e
      · dsimp only
        rw [nI_clamp (by omega), nI_clamp (by omega), nI_clamp (by omega), nI_clamp (by omega)]
        omega
    · -- the first
      refine ⟨⟨hVa, hVS, hVR, by dsimp only; omega, fun i hi => hst i (by dsimp only at hi; omega), hsn⟩, hVat, by dsimp only; omega, by dsimp only; omega, fun c hc hVc hne => ?_, fun w hw => absurd hw (Nat.not_lt_zero _)⟩
      dsimp only at hVc ⊢
      rcases hF c hc hVc with ⟨i, h1, h2⟩ | h4
      · left
        by_cases e : i = h'
        · rw [e, hpat, nI_eq (by omega) (by omega)] at h2
          exact absurd h2.symm hne
        · exact ⟨i, by omega, h2⟩
      · exact Or.inr h4
theorem m_isOne {set seen pile : Nat → Int32} {post : Int32 → (Nat → Int32) → (Nat → Int32) → Prop} (S : Nat → Bool) (hS : fillB S 256 set) (h : ∀ seen' pile', post (bI (dP (One S))) seen' pile') : wp_X5_isOne set seen pile post := by
  unfold wp_X5_isOne
  refine lp_cnt 256 (fun k (t : Int32 × (Nat → Int32) × (Nat → Int32)) => (t.1, nI (fb_ct S k), nI k, t.2.1, t.2.2))
    (fun k t => fillB (fun _ => false) k t.2.1 ∧ (fb_ct S k = 0 → t.1 = 0) ∧ (0 < fb_ct S k → t.1 = 1 ∧ ∃ a, a < k ∧ S a = true ∧ t.2.2 0 = nI a)) ?_ ?_ 0 (0, seen, pile) (by omega) ⟨fillB_0 _ _, fun _ => rfl, fun z => absurd z (Nat.lt_irrefl 0)⟩
  · rintro K k ⟨hg, sn, pl⟩ hk ⟨h1, h2, h3⟩ hK
    dsimp only at h1 h2 h3
    have hck : fb_ct S k ≤ k := fb_ct_le S k
    show wp_X5_isOne_6 _ _ _ _ _ _ _ _ _ _
    unfold wp_X5_isOne_6
    refine ⟨fun z => absurd z (lc_ge hk), fun _ => ⟨lc_in hk, ?_⟩⟩
    intro sn' esn
    dsimp only at esn ⊢
    rw [lc_N (by omega), nar_0] at esn
    refine ⟨lc_in hk, ?_⟩
    rw [lc_N (by omega), hS k hk]
    have hf : fillB (fun _ => false) (k + 1) sn' := by rw [esn]; exact fillB_upd (S := fun _ => false) h1
    cases hSk : S k with
    | false =>
      refine ⟨fun _ => ?_, fun z => absurd rfl z⟩
      unfold wp_X5_isOne_35
      refine ⟨lc_in hk, ?_⟩
      rw [lc_N (by omega), hS k hk, hSk]
      have e : nI (fb_ct S k) + 0 = nI (fb_ct S (k + 1)) := by rw [← cnt_bI, hSk]; rfl
      have e2 : fb_ct S (k + 1) = fb_ct S k := by rw [fb_ct_succ, hSk]; simp
      refine ⟨fun _ => ?_, fun z => absurd rfl z⟩
      rw [e, nI_1]
      refine hK (hg, sn', pl) ⟨hf, fun z => h2 (by omega), fun z => ?_⟩
      obtain ⟨g1, a, g2, g3, g4⟩ := h3 (by omega)
      exact ⟨g1, a, by omega, g3, g4⟩
    | true =>
      refine ⟨fun z => absurd z (by decide), fun _ => ?_⟩
      unfold wp_X5_isOne_35
      refine ⟨lc_in hk, ?_⟩
      rw [lc_N (by omega), hS k hk, hSk]
      have e : nI (fb_ct S k) + 1 = nI (fb_ct S (k + 1)) := by rw [← cnt_bI, hSk]; rfl
      have e2 : fb_ct S (k + 1) = fb_ct S k + 1 := by rw [fb_ct_succ, hSk]; simp
      refine ⟨fun z => absurd z (by decide), fun _ => ⟨fun z => ?_, fun z => ?_⟩⟩
      · intro pl' epl
        rw [e, nI_1]
        refine hK (1, sn', pl') ⟨hf, fun z => by omega, fun _ => ⟨rfl, k, by omega, hSk, ?_⟩⟩
        dsimp only
        rw [epl, show (0 : Int32).toNatClampNeg = 0 from rfl, upd_at]
      · rw [e, nI_1]
        have hne : ¬ fb_ct S k = 0 := fun q => z (by rw [q]; rfl)
        obtain ⟨g1, a, g2, g3, g4⟩ := h3 (by omega)
        refine hK (hg, sn', pl) ⟨hf, fun z => by omega, fun _ => ⟨g1, a, by omega, g3, g4⟩⟩
  · rintro K ⟨hg, sn, pl⟩ ⟨h1, h2, h3⟩
    dsimp only at h1 h2 h3
    have hck : fb_ct S 256 ≤ 256 := fb_ct_le S 256
    show wp_X5_isOne_6 _ _ _ _ _ _ _ _ _ _
    unfold wp_X5_isOne_6
    refine ⟨fun _ => ⟨fun z => ?_, fun z => ?_⟩, fun z => absurd lc_end z⟩
    · have e0 : fb_ct S 256 = 0 := by
        rw [show (0 : Int32) = nI 0 from rfl] at z
        exact (nI_eq (by omega) (by omega)).mp z
      have hno : ¬ One S := by
        rintro ⟨a, ha, hSa, -⟩
        have := fb_ct_zero.mp e0 a ha
        rw [hSa] at this
        cases this
      have k := h sn pl
      rw [dP_f hno] at k
      exact k
    · have e0 : 0 < fb_ct S 256 := Nat.pos_of_ne_zero (fun q => z (by dsimp only; rw [q]; rfl))
      obtain ⟨g1, a, ha, hSa, hpa⟩ := h3 e0
      subst g1
      dsimp only
      rw [show (0 : Int32).toNatClampNeg = 0 from rfl, hpa]
      refine ⟨vp_in_nI ha (by omega), ?_⟩
      intro sn' esn
      rw [nI_clamp (by omega), nar_1] at esn
      have hct : fb_ct (fun c => decide (c = a)) 256 = 1 := by
        have k := ct_add (V := fun _ => false) ha rfl
        rw [show fb_ct (fun _ => false) 256 = 0 from fb_ct_zero.mpr (fun _ _ => rfl)] at k
        exact (fb_ct_cong (fun _ _ => by simp)).trans k
      refine m_dfs hS ha hSa h _ ⟨(fun c => decide (c = a)), 1, sn', pl, by rw [hct]; rfl, ⟨by simp, fun c hc hV => by rw [of_decide_eq_true hV]; exact hSa, fun c hc hV => by rw [of_decide_eq_true hV]; exact Rch.rf, by omega, fun i hi => ⟨a, ha, by rw [show i = 0 by omega]; exact hpa, by simp⟩, fun c hc => ?_⟩, fun c hc hV => Or.inl ⟨0, by omega, by rw [of_decide_eq_true hV]; exact hpa⟩⟩
      rw [esn]
      by_cases e : c = a
      · rw [e, upd_at]; simp [bI]
      · rw [upd_ne _ _ e, h1 c hc]; simp [e]
