/-! the class: the flood -/
theorem ct_lt2 {V S : Nat → Bool} {n : Nat} (hs : ∀ c, c < n → V c = true → S c = true) (hne : ∃ c, c < n ∧ V c ≠ S c) : fb_ct V n + 1 ≤ fb_ct S n := by
  have h1 := fb_ct_sub hs
  have h2 : fb_ct V n ≠ fb_ct S n := fun e => by
    obtain ⟨c, hc, hv⟩ := hne
    have := (ct_eq_iff hs).mp e c hc
    have g := hs c hc
    cases hV : V c <;> cases hS : S c <;> simp_all
  omega
theorem p_fill {n : Nat} (hn : n < 2147483648) {f : Nat → Int32} {x : Int32} {post : (Nat → Int32) → Prop} (h : ∀ f', (∀ i, i < n → f' i = x) → post f') : wp_J7_fill_53178 n f x post := by
  unfold wp_J7_fill_53178
  rw [show Int32.ofNat n = nI n from rfl]
  refine lp_cnt n (fun k (g : Nat → Int32) => (nI k, nI n, g)) (fun k g => ∀ i, i < k → g i = x) ?_ ?_ 0 f (by omega) (fun i hi => absurd hi (Nat.not_lt_zero i))
  · rintro K k g hk hg hK
    show wp_J7_fill_53178_5 _ _ _ _ _ _ _ _
    unfold wp_J7_fill_53178_5
    refine brle2 (by omega) (by omega) (fun z => absurd z (by omega)) (fun _ => ⟨vp_in_nI hk hn, ?_⟩)
    rw [nI_clamp (by omega), nI_1 k]
    rintro _ rfl
    refine hK _ fun i hi => ?_
    by_cases e : i = k
    · rw [e, upd_at]
    · rw [upd_ne _ _ e]; exact hg i (by omega)
  · rintro K g hg
    show wp_J7_fill_53178_5 _ _ _ _ _ _ _ _
    unfold wp_J7_fill_53178_5
    exact ⟨fun _ => h g hg, fun z => absurd (Int32.le_refl _) z⟩
/-- the runs of a row with seeds in them -/
def runI (x y z : Int32) : Prop := (∀ i, i < 32 → bt z i = true → bt y i = true) ∧ (∀ i, i < 32 → bt x i = true → bt y i = true → bt z i = true) ∧ ∀ T : Nat → Prop, (∀ i, i < 32 → bt x i = true → bt y i = true → T i) → (∀ i, i + 1 < 32 → T i → bt y (i + 1) = true → T (i + 1)) → (∀ i, i + 1 < 32 → T (i + 1) → bt y i = true → T i) → ∀ i, i < 32 → bt z i = true → T i
def runC (y z : Int32) : Prop := (∀ i, i + 1 < 32 → bt z i = true → bt y (i + 1) = true → bt z (i + 1) = true) ∧ ∀ i, i + 1 < 32 → bt z (i + 1) = true → bt y i = true → bt z i = true
theorem b_ext_ne {x y : Int32} (h : ¬ x = y) : ∃ i, i < 32 ∧ bt x i ≠ bt y i := by
  refine Classical.byContradiction fun hno => h (b_ext fun i hi => ?_)
  exact Classical.byContradiction fun hb => hno ⟨i, hi, hb⟩
theorem longer_bt (z y : Int32) {i : Nat} (hi : i < 32) : bt (((z ||| (z <<< ((1 : Int32) &&& 31))) ||| ((z).toUInt32 >>> ((1 : Int32).toUInt32 &&& Int32.toUInt32 31)).toInt32) &&& y) i = ((bt z i || (decide (1 ≤ i) && bt z (i - 1)) || bt z (i + 1)) && bt y i) := by
  rw [b_and, b_or, b_or]
  have e1 : bt (z <<< ((1 : Int32) &&& 31)) i = (decide (1 ≤ i) && bt z (i - 1)) := b_shl 1 (by omega) z hi
  have e2 : bt ((z.toUInt32 >>> ((1 : Int32).toUInt32 &&& Int32.toUInt32 31)).toInt32) i = bt z (1 + i) := b_ushr 1 (by omega) z i
  rw [e1, e2, Nat.add_comm 1 i]
theorem k_runsWith {x y : Int32} {post : Int32 → Prop} (hy : ∀ i, 16 ≤ i → i < 32 → bt y i = false) (h : ∀ z, runI x y z → runC y z → post z) : wp_X3_runsWith x y post := by
  unfold wp_X3_runsWith
  refine lp_cnt 16 (fun k (z : Int32) => (z, nI k)) (fun k z => runI x y z ∧ (k = 0 ∨ k + 1 ≤ fb_ct (bt z) 32)) ?_ ?_ 0 (x &&& y) (by omega) ⟨⟨fun i hi hz => ?_, fun i hi h1 h2 => ?_, fun T h1 h2 h3 i hi hz => ?_⟩, Or.inl rfl⟩
  · rintro K k z hk ⟨hI, hct⟩ hK
    show wp_X3_runsWith_6 _ _ _ _ _ _
    unfold wp_X3_runsWith_6
    dsimp only
    refine brle2 (a := 16) (by omega) (by omega) (fun z => absurd z (by omega)) (fun _ => ?_)
    intro w ew
    have hb : ∀ i, i < 32 → bt w i = ((bt z i || (decide (1 ≤ i) && bt z (i - 1)) || bt z (i + 1)) && bt y i) := fun i hi => by rw [ew]; exact longer_bt z y hi
    have hzw : ∀ i, i < 32 → bt z i = true → bt w i = true := fun i hi hz => by rw [hb i hi, hz, hI.1 i hi hz]; rfl
    refine ⟨fun e => h z hI ⟨fun i hi hz hyi => ?_, fun i hi hz hyi => ?_⟩, fun hne => ?_⟩
    · rw [← e, hb (i + 1) hi, hyi, decide_eq_true (show 1 ≤ i + 1 by omega), Nat.add_sub_cancel, hz]
      cases bt z (i + 1) <;> rfl
    · rw [← e, hb i (by omega), hyi, hz]
      cases bt z i <;> cases decide (1 ≤ i) <;> cases bt z (i - 1) <;> rfl
    · rw [nI_1 k]
      have hlt := ct_lt2 hzw (by
        obtain ⟨i, hi, hn⟩ := b_ext_ne hne
        exact ⟨i, hi, fun e => hn e.symm⟩)
      refine hK w ⟨⟨fun i hi hw => ?_, fun i hi h1 h2 => hzw i hi (hI.2.1 i hi h1 h2), fun T h1 h2 h3 i hi hw => ?_⟩, Or.inr ?_⟩
      · rw [hb i hi, Bool.and_eq_true] at hw; exact hw.2
      · have hT := hI.2.2 T h1 h2 h3
        rw [hb i hi, Bool.and_eq_true, Bool.or_eq_true, Bool.or_eq_true, Bool.and_eq_true, decide_eq_true_iff] at hw
        obtain ⟨(g | ⟨g1, g2⟩) | g, hyi⟩ := hw
        · exact hT i hi g
        · have := h2 (i - 1) (by omega) (hT (i - 1) (by omega) g2) (by rw [show i - 1 + 1 = i by omega]; exact hyi)
          rw [show i - 1 + 1 = i by omega] at this; exact this
        · by_cases g3 : i + 1 < 32
          · exact h3 i g3 (hT (i + 1) g3 g) hyi
          · rw [b_big (by omega)] at g; exact absurd g (by decide)
      · rcases hct with e0 | hct
        · subst e0
          -- the first step: some bit stood there
          have hpos : 0 < fb_ct (bt z) 32 := by
            refine Nat.pos_of_ne_zero fun e0 => hne ?_
            have hz0 := fb_ct_zero.mp e0
            refine b_ext fun i hi => ?_
            rw [hb i hi, hz0 i hi]
            have g1 : (decide (1 ≤ i) && bt z (i - 1)) = false := by rw [hz0 (i - 1) (by omega), Bool.and_false]
            have g2 : bt z (i + 1) = false := by
              by_cases g : i + 1 < 32
              · exact hz0 _ g
              · exact b_big (by omega)
            rw [g1, g2]; rfl
          omega
        · omega
  · rintro K z ⟨hI, hct⟩
    exfalso
    have h16 : fb_ct (bt z) 32 = fb_ct (bt z) 16 := pc16 fun i h1 h2 => by
      cases g : bt z i
      · rfl
      · have := hI.1 i h2 g
        rw [hy i h1 h2] at this; exact absurd this (by decide)
    have := fb_ct_le (bt z) 16
    omega
  · rw [b_and, Bool.and_eq_true] at hz; exact hz.2
  · rw [b_and, h1, h2]; rfl
  · rw [b_and, Bool.and_eq_true] at hz; exact h1 i hi hz.1 hz.2
/-- V' comes about from V within S -/
def Grow (S V V' : Nat → Bool) : Prop := (∀ c, c < 256 → V c = true → V' c = true) ∧ (∀ c, c < 256 → V' c = true → S c = true) ∧ ∀ T : Nat → Prop, (∀ c, c < 256 → V c = true → T c) → (∀ c d, c < 256 → d < 256 → T c → adj c d → S d = true → T d) → ∀ c, c < 256 → V' c = true → T c
def Clo (S V : Nat → Bool) (m : Nat) : Prop := ∀ c d, c < 256 → d < m → V c = true → adj c d → S d = true → V d = true
theorem rr_upd {f : Nat → Int32} {V : Nat → Bool} {k : Nat} {z : Int32} (h : rr f V) (hz : ∀ i, 16 ≤ i → i < 32 → bt z i = false) : rr (upd f k z) (fun c => if c / 16 = k then bt z (c % 16) else V c) := fun r hr i hi => by
  by_cases e : r = k
  · subst e
    rw [upd_at]
    by_cases g : i < 16
    · dsimp only
      rw [decide_eq_true g, Bool.true_and, if_pos (show (16 * r + i) / 16 = r by omega), show (16 * r + i) % 16 = i by omega]
    · rw [decide_eq_false g, hz i (by omega) hi]; rfl
  · rw [upd_ne _ _ e, h r hr i hi]
    by_cases g : i < 16
    · dsimp only
      rw [decide_eq_true g, if_neg (show ¬ (16 * r + i) / 16 = k by omega)]
    · rw [decide_eq_false g]; rfl
theorem k_reachFarther {rows re : Nat → Int32} {S V : Nat → Bool} {post : Int32 → (Nat → Int32) → Prop} (hS : rr rows S) (hV : rr re V) (hVS : ∀ c, c < 256 → V c = true → S c = true)
    (h : ∀ (b : Bool) (re' : Nat → Int32) (V' : Nat → Bool), rr re' V' → Grow S V V' → (b = true → fb_ct V 256 + 1 ≤ fb_ct V' 256) → (b = false → Clo S V' 256) → post (bI b) re') : wp_X3_reachFarther rows re post := by
  unfold wp_X3_reachFarther
  refine lp_cnt 16 (fun k (t : Bool × (Nat → Int32)) => (bI t.1, nI k, t.2)) (fun k t => ∃ V', rr t.2 V' ∧ Grow S V V' ∧ (t.1 = true → fb_ct V 256 + 1 ≤ fb_ct V' 256) ∧ (t.1 = false → (∀ c, c < 256 → V' c = V c) ∧ Clo S V' (16 * k))) ?_ ?_ 0 (false, re) (by omega) ⟨V, hV, ⟨fun _ _ h => h, hVS, fun T h1 _ => h1⟩, fun z => absurd z Bool.false_ne_true, fun _ => ⟨fun _ _ => rfl, fun c d _ hd => absurd hd (by omega)⟩⟩
  · rintro K k ⟨b, f⟩ hk ⟨V', hf, hG, hb1, hb0⟩ hK
    dsimp only at hf hb1 hb0
    show wp_X3_reachFarther_4 _ _ _ _ _ _ _
    unfold wp_X3_reachFarther_4
    dsimp only
    have hf2 : ∀ r, r < 16 → ∀ i, i < 32 → (bt (f r) i = true ↔ i < 16 ∧ V' (16 * r + i) = true) := fun r hr i hi => by
      rw [hf r hr i hi, Bool.and_eq_true, decide_eq_true_iff]
    have hy2 : ∀ i, 16 ≤ i → i < 32 → bt (rows k) i = false := fun i h1 h2 => by rw [hS k hk i h2, decide_eq_false (show ¬ i < 16 by omega)]; rfl
    have hyS : ∀ i, i < 32 → (bt (rows k) i = true ↔ i < 16 ∧ S (16 * k + i) = true) := fun i hi => by rw [hS k hk i hi, Bool.and_eq_true, decide_eq_true_iff]
    -- with what lies above and below
    have key : ∀ up lo : Int32, (∀ i, i < 32 → (bt up i = true ↔ 0 < k ∧ i < 16 ∧ V' (16 * (k - 1) + i) = true)) → (∀ i, i < 32 → (bt lo i = true ↔ k < 15 ∧ i < 16 ∧ V' (16 * (k + 1) + i) = true)) → wp_X3_reachFarther_47 rows re post (fun b0 b1 b2 => K (b0, b1, b2)) lo (bI b) (nI k) up f := fun up lo hup hlo => by
      unfold wp_X3_reachFarther_47 wp_X3_reachFarther_88
      rw [nI_clamp (show k < 2147483648 by omega), nI_1 k]
      refine ⟨vp_in_nI hk (by omega), vp_in_nI hk (by omega), k_runsWith hy2 fun z hI hC => ⟨vp_in_nI hk (by omega), fun e => ⟨vp_in_nI hk (by omega), ?_⟩, fun e => ⟨vp_in_nI hk (by omega), ?_⟩⟩⟩
      · -- nothing new in this row
        rintro _ rfl
        have eb : bI b ||| 0 = bI b := by cases b <;> rfl
        rw [eb]
        have ef : upd f k z = f := by rw [e]; exact fa_upd_same rfl
        rw [ef]
        refine hK (b, f) ⟨V', hf, hG, hb1, fun hbf => ⟨(hb0 hbf).1, fun c d hc hd hVc hadj hSd => ?_⟩⟩
        by_cases g : d < 16 * k
        · exact (hb0 hbf).2 c d hc g hVc hadj hSd
        · obtain ⟨j, rfl⟩ : ∃ j, d = 16 * k + j := ⟨d - 16 * k, by omega⟩
          have hj : j < 16 := by omega
          suffices hz : bt z j = true by
            rw [e] at hz
            exact ((hf2 k hk j (by omega)).mp hz).2
          have hyj : bt (rows k) j = true := (hyS j (by omega)).mpr ⟨hj, hSd⟩
          unfold adj at hadj
          rcases hadj with ⟨h1, h2 | h2⟩ | ⟨h1, h2 | h2⟩
          · obtain ⟨i, rfl⟩ : ∃ i, j = i + 1 := ⟨j - 1, by omega⟩
            refine hC.1 i (by omega) ?_ hyj
            rw [e]
            exact (hf2 k hk i (by omega)).mpr ⟨by omega, by rw [show 16 * k + i = c by omega]; exact hVc⟩
          · refine hC.2 j (by omega) ?_ hyj
            rw [e]
            exact (hf2 k hk (j + 1) (by omega)).mpr ⟨by omega, by rw [show 16 * k + (j + 1) = c by omega]; exact hVc⟩
          · refine hI.2.1 j (by omega) ?_ hyj
            rw [b_or, b_or, (hup j (by omega)).mpr ⟨by omega, hj, by rw [show 16 * (k - 1) + j = c by omega]; exact hVc⟩]
            cases bt (f k) j <;> rfl
          · refine hI.2.1 j (by omega) ?_ hyj
            rw [b_or, b_or, (hlo j (by omega)).mpr ⟨by omega, hj, by rw [show 16 * (k + 1) + j = c by omega]; exact hVc⟩]
            cases bt (f k) j <;> cases bt up j <;> rfl
      · -- new ones
        rintro _ rfl
        have eb : bI b ||| 1 = bI true := by cases b <;> rfl
        rw [eb]
        have hz16 : ∀ i, 16 ≤ i → i < 32 → bt z i = false := fun i h1 h2 => by
          cases g : bt z i
          · rfl
          · have := hI.1 i h2 g
            rw [hy2 i h1 h2] at this; exact absurd this (by decide)
        have hsub : ∀ i, i < 32 → bt (f k) i = true → bt z i = true := fun i hi hfi => by
          refine hI.2.1 i hi ?_ ?_
          · rw [b_or, b_or, hfi]; rfl
          · have := (hf2 k hk i hi).mp hfi
            exact (hyS i hi).mpr ⟨this.1, hG.2.1 _ (by omega) this.2⟩
        refine hK (true, _) ⟨_, rr_upd hf hz16, ⟨fun c hc hVc => ?_, fun c hc hVc => ?_, fun T h1 h2 c hc hVc => ?_⟩, fun _ => ?_, fun z => Bool.noConfusion (show true = false from z)⟩
        · dsimp only
          have hVc' := hG.1 c hc hVc
          by_cases g : c / 16 = k
          · rw [if_pos g]
            exact hsub _ (by omega) ((hf2 k hk (c % 16) (by omega)).mpr ⟨by omega, by rw [show 16 * k + c % 16 = c by omega]; exact hVc'⟩)
          · rw [if_neg g]; exact hVc'
        · dsimp only at hVc
          by_cases g : c / 16 = k
          · rw [if_pos g] at hVc
            have := (hyS _ (by omega)).mp (hI.1 _ (by omega) hVc)
            rw [show 16 * k + c % 16 = c by omega] at this; exact this.2
          · rw [if_neg g] at hVc; exact hG.2.1 c hc hVc
        · dsimp only at hVc
          have hT := hG.2.2 T h1 h2
          by_cases g : c / 16 = k
          · rw [if_pos g] at hVc
            have := hI.2.2 (fun i => i < 16 ∧ T (16 * k + i)) (fun i hi hx hyi => ⟨((hyS i hi).mp hyi).1, ?_⟩) (fun i hi hTi hyi => ?_) (fun i hi hTi hyi => ?_) _ (by omega) hVc
            · rw [show 16 * k + c % 16 = c by omega] at this; exact this.2
            · obtain ⟨hi16, hSi⟩ := (hyS i hi).mp hyi
              rw [b_or, b_or, Bool.or_eq_true, Bool.or_eq_true] at hx
              rcases hx with (hx | hx) | hx
              · exact hT _ (by omega) ((hf2 k hk i hi).mp hx).2
              · obtain ⟨g1, g2, g3⟩ := (hup i hi).mp hx
                exact h2 _ _ (by omega) (by omega) (hT _ (by omega) g3) (by unfold adj; omega) hSi
              · obtain ⟨g1, g2, g3⟩ := (hlo i hi).mp hx
                exact h2 _ _ (by omega) (by omega) (hT _ (by omega) g3) (by unfold adj; omega) hSi
            · obtain ⟨hi16, hSi⟩ := (hyS _ hi).mp hyi
              exact ⟨hi16, h2 (16 * k + i) _ (by omega) (by omega) hTi.2 (by unfold adj; omega) hSi⟩
            · obtain ⟨hi16, hSi⟩ := (hyS _ (by omega)).mp hyi
              have hb := hTi.1
              exact ⟨hi16, h2 (16 * k + (i + 1)) _ (by omega) (by omega) hTi.2 (by unfold adj; omega) hSi⟩
          · rw [if_neg g] at hVc; exact hT c hc hVc
        · have hle : fb_ct V 256 ≤ fb_ct V' 256 := fb_ct_sub fun c hc h => hG.1 c hc h
          have := ct_lt2 (V := V') (S := fun c => if c / 16 = k then bt z (c % 16) else V' c) (n := 256) (fun c hc hVc => ?_) ?_
          · omega
          · show (if c / 16 = k then bt z (c % 16) else V' c) = true
            by_cases g : c / 16 = k
            · rw [if_pos g]
              exact hsub _ (by omega) ((hf2 k hk (c % 16) (by omega)).mpr ⟨by omega, by rw [show 16 * k + c % 16 = c by omega]; exact hVc⟩)
            · rw [if_neg g]; exact hVc
          · obtain ⟨i, hi, hne⟩ := b_ext_ne e
            have hi16 : i < 16 := by
              rcases Nat.lt_or_ge i 16 with g | g
              · exact g
              · rw [hz16 i g hi] at hne
                have : bt (f k) i = false := by rw [hf k hk i hi, decide_eq_false (show ¬ i < 16 by omega)]; rfl
                rw [this] at hne; exact absurd rfl hne
            refine ⟨16 * k + i, by omega, ?_⟩
            show V' (16 * k + i) ≠ (if (16 * k + i) / 16 = k then bt z ((16 * k + i) % 16) else V' (16 * k + i))
            rw [if_pos (show (16 * k + i) / 16 = k by omega), show (16 * k + i) % 16 = i by omega]
            intro g
            refine hne ?_
            rw [← g, hf k hk i hi, decide_eq_true hi16, Bool.true_and]
    have key26 : ∀ up : Int32, (∀ i, i < 32 → (bt up i = true ↔ 0 < k ∧ i < 16 ∧ V' (16 * (k - 1) + i) = true)) → wp_X3_reachFarther_26 rows re post (fun b0 b1 b2 => K (b0, b1, b2)) up (bI b) (nI k) f := fun up hup => by
      unfold wp_X3_reachFarther_26
      rw [nI_1 k]
      refine brle2 (a := 16) (by omega) (by omega) (fun z => key up 0 hup fun i hi => ?_) (fun z => ⟨vp_in_nI (by omega) (by omega), ?_⟩)
      · rw [b_0]
        exact ⟨fun z => absurd z (by decide), fun z => absurd z.1 (by omega)⟩
      · rw [nI_clamp (show k + 1 < 2147483648 by omega)]
        refine key up _ hup fun i hi => ?_
        rw [hf2 (k + 1) (by omega) i hi]
        exact ⟨fun g => ⟨by omega, g⟩, fun g => g.2⟩
    refine brle2 (a := 16) (by omega) (by omega) (fun z => absurd z (by omega)) (fun _ => ?_)
    refine brle2 (b := 0) (by omega) (by omega) (fun z => key26 0 fun i hi => ?_) (fun z => ?_)
    · rw [b_0]
      exact ⟨fun z => absurd z (by decide), fun g => absurd g.1 (by omega)⟩
    · have e1 : nI k - 1 = nI (k - 1) := by
        rw [show (1 : Int32) = nI 1 from rfl, pk_sub (by omega)]
      rw [e1, nI_clamp (show k - 1 < 2147483648 by omega)]
      refine ⟨vp_in_nI (by omega) (by omega), key26 _ fun i hi => ?_⟩
      rw [hf2 (k - 1) (by omega) i hi]
      exact ⟨fun g => ⟨by omega, g⟩, fun g => g.2⟩
  · rintro K ⟨b, f⟩ ⟨V', hf, hG, hb1, hb0⟩
    show wp_X3_reachFarther_4 _ _ _ _ _ _ _
    unfold wp_X3_reachFarther_4
    exact ⟨fun _ => ⟨bI_01 b, h b f V' hf hG hb1 fun e => (hb0 e).2⟩, fun z => absurd (show (16 : Int32) ≤ nI 16 by decide) z⟩
theorem k_reachesAll {rows re : Nat → Int32} {S V : Nat → Bool} {post : Int32 → Prop} (hS : rr rows S) (hV : rr re V) (hVS : ∀ c, c < 256 → V c = true → S c = true) (h : post (bI (decide (fb_ct V 256 = fb_ct S 256) && decide (0 < fb_ct S 256)))) : wp_X3_reachesAll rows re post := by
  unfold wp_X3_reachesAll
  refine lp_cnt 16 (fun k (b : Bool) => (bI b, nI k)) (fun k b => (∀ c, c < 16 * k → V c = S c) ∧ b = decide (0 < fb_ct S (16 * k))) ?_ ?_ 0 false (by omega) ⟨fun c hc => absurd hc (by omega), rfl⟩
  · rintro K k b hk ⟨h1, h2⟩ hK
    show wp_X3_reachesAll_4 _ _ _ _ _ _
    unfold wp_X3_reachesAll_4 wp_X3_reachesAll_42
    dsimp only
    rw [nI_clamp (show k < 2147483648 by omega), nI_1 k]
    refine brle2 (a := 16) (by omega) (by omega) (fun z => absurd z (by omega)) (fun _ => ⟨vp_in_nI hk (by omega), vp_in_nI hk (by omega), fun e => ⟨vp_in_nI hk (by omega), ?_⟩, fun e => ?_⟩)
    · have hrow : ∀ c, c < 16 * (k + 1) → V c = S c := fun c hc => by
        by_cases g : c < 16 * k
        · exact h1 c g
        · have a1 := hV k hk (c - 16 * k) (by omega)
          have a2 := hS k hk (c - 16 * k) (by omega)
          rw [e, a2, decide_eq_true (show c - 16 * k < 16 by omega), Bool.true_and, Bool.true_and, show 16 * k + (c - 16 * k) = c by omega] at a1
          exact a1.symm
      have ez : rows k = 0 ↔ fb_ct (fun i => S (16 * k + i)) 16 = 0 := by
        rw [b_eq0, fb_ct_zero]
        constructor
        · intro g i hi
          have := g i (by omega)
          rw [hS k hk i (by omega), decide_eq_true hi, Bool.true_and] at this; exact this
        · intro g i hi
          rw [hS k hk i hi]
          by_cases g2 : i < 16
          · rw [g i g2, Bool.and_false]
          · rw [decide_eq_false g2]; rfl
      have es : fb_ct S (16 * (k + 1)) = fb_ct S (16 * k) + fb_ct (fun i => S (16 * k + i)) 16 := by
        rw [show 16 * (k + 1) = 16 * k + 16 by omega, fb_ct_split]
      refine ⟨fun z => ?_, fun z => ?_⟩
      · have eb : bI b ||| 0 = bI b := by cases b <;> rfl
        rw [eb]
        refine hK b ⟨hrow, ?_⟩
        rw [h2, es, ez.mp z, Nat.add_zero]
      · have eb : bI b ||| 1 = bI true := by cases b <;> rfl
        rw [eb]
        refine hK true ⟨hrow, ?_⟩
        have : fb_ct (fun i => S (16 * k + i)) 16 ≠ 0 := fun g => z (ez.mpr g)
        rw [decide_eq_true (by omega)]
    · have : fb_ct V 256 ≠ fb_ct S 256 := fun g => e (by
        have g2 := (ct_eq_iff hVS).mp g
        refine b_ext fun i hi => ?_
        rw [hV k hk i hi, hS k hk i hi]
        by_cases g3 : i < 16
        · have u1 := hVS (16 * k + i) (by omega)
          have u2 := g2 (16 * k + i) (by omega)
          congr 1
          cases hv : V (16 * k + i) <;> cases hs : S (16 * k + i) <;> simp_all
        · rw [decide_eq_false g3]; rfl)
      rw [decide_eq_false this] at h
      exact h
  · rintro K b ⟨h1, h2⟩
    show wp_X3_reachesAll_4 _ _ _ _ _ _
    unfold wp_X3_reachesAll_4
    refine ⟨fun _ => ⟨bI_01 b, ?_⟩, fun z => absurd (show (16 : Int32) ≤ nI 16 by decide) z⟩
    have e : fb_ct V 256 = fb_ct S 256 := fb_ct_cong fun c hc => h1 c hc
    rw [decide_eq_true e, Bool.true_and, ← show b = decide (0 < fb_ct S 256) from h2] at h
    exact h
theorem k_isOnePart {rows re : Nat → Int32} {S : Nat → Bool} {post : Int32 → (Nat → Int32) → Prop} (hS : rr rows S) (h : ∀ re', post (bI (dP (One S))) re') : wp_X3_isOnePart rows re post := by
  have fin : ∀ (f : Nat → Int32) (V : Nat → Bool), rr f V → (∀ c, c < 256 → V c = true → S c = true) → ((decide (fb_ct V 256 = fb_ct S 256) && decide (0 < fb_ct S 256)) = dP (One S)) → wp_X3_isOnePart_29 rows re post f := fun f V hV hVS e => by
    unfold wp_X3_isOnePart_29
    refine k_reachesAll hS hV hVS ?_
    rw [e]
    exact ⟨bI_01 _, h f⟩
  unfold wp_X3_isOnePart wp_X3_reachFirst
  refine p_fill (by omega) fun f0 hf0 => ?_
  have hr0 : rr f0 (fun _ => false) := fun r hr i hi => by rw [hf0 r hr, b_0, Bool.and_false]
  -- the first row with cells
  refine lp_cnt 16 (fun k (g : Nat → Int32) => (nI k, g)) (fun k g => g = f0 ∧ ∀ c, c < 16 * k → S c = false) ?_ ?_ 0 f0 (by omega) ⟨rfl, fun c hc => absurd hc (by omega)⟩
  · rintro K k _ hk ⟨rfl, hno⟩ hK
    rename_i g
    show wp_X3_reachFirst_10 _ _ _ _ _ _
    unfold wp_X3_reachFirst_10
    dsimp only
    rw [nI_clamp (show k < 2147483648 by omega), nI_1 k]
    refine brle2 (a := 16) (by omega) (by omega) (fun z => absurd z (by omega)) (fun _ => ⟨vp_in_nI hk (by omega), fun z => ?_, fun z => ⟨vp_in_nI hk (by omega), vp_in_nI hk (by omega), vp_in_nI hk (by omega), ?_⟩⟩)
    · refine hK _ ⟨rfl, fun c hc => ?_⟩
      by_cases g : c < 16 * k
      · exact hno c g
      · have := b_eq0.mp z (c - 16 * k) (by omega)
        rw [hS k hk _ (by omega), decide_eq_true (show c - 16 * k < 16 by omega), Bool.true_and, show 16 * k + (c - 16 * k) = c by omega] at this
        exact this
    · rintro _ rfl
      -- the lowest bit
      obtain ⟨j0, hj0, hb0⟩ : ∃ j, j < 32 ∧ bt (rows k) j = true := by
        refine Classical.byContradiction fun hno2 => z (b_eq0.mpr fun i hi => ?_)
        cases g2 : bt (rows k) i
        · rfl
        · exact absurd ⟨i, hi, g2⟩ hno2
      obtain ⟨j, hj, hbj, hmin⟩ := least (P := fun i => bt (rows k) i = true) hb0
      have hj32 : j < 32 := by omega
      have hS2 : j < 16 ∧ S (16 * k + j) = true := by
        have := hbj
        rw [hS k hk j hj32, Bool.and_eq_true, decide_eq_true_iff] at this; exact this
      have hlow : ∀ i, i < 32 → bt (rows k &&& (-(rows k))) i = decide (i = j) := fun i hi => by
        rw [b_low _ hi]
        by_cases e : i = j
        · subst e
          rw [hbj, dP_f (fun ⟨m, g1, g2⟩ => hmin m g1 g2), decide_eq_true rfl]; rfl
        · rw [decide_eq_false e]
          rcases Nat.lt_or_ge i j with q | q
          · have : bt (rows k) i = false := by
              cases hx : bt (rows k) i
              · rfl
              · exact absurd hx (hmin i q)
            rw [this]; rfl
          · rw [dP_t ⟨j, by omega, hbj⟩]; simp
      have hrr : rr (upd g k (rows k &&& (-(rows k)))) (fun c => decide (c = 16 * k + j)) := fun r hr i hi => by
        show bt (upd g k (rows k &&& (-(rows k))) r) i = (decide (i < 16) && decide (16 * r + i = 16 * k + j))
        by_cases e : r = k
        · subst e
          rw [upd_at, hlow i hi]
          by_cases e2 : i = j
          · subst e2; rw [decide_eq_true rfl, decide_eq_true hS2.1, decide_eq_true rfl]; rfl
          · rw [decide_eq_false e2, decide_eq_false (show ¬ 16 * r + i = 16 * r + j by omega), Bool.and_false]
        · rw [upd_ne _ _ e, hr0 r hr i hi]
          by_cases g3 : i < 16
          · rw [decide_eq_true g3, decide_eq_false (show ¬ 16 * r + i = 16 * k + j by omega)]
          · rw [decide_eq_false g3]; rfl
      obtain ⟨a, ea⟩ : ∃ a, a = 16 * k + j := ⟨_, rfl⟩
      rw [← ea] at hrr
      have ha : a < 256 := by omega
      have hSa : S a = true := by rw [ea]; exact hS2.2
      have hSpos : 0 < fb_ct S 256 := fb_ct_pos.mpr ⟨a, ha, hSa⟩
      have done : ∀ V : Nat → Bool, V a = true → (∀ c, c < 256 → V c = true → S c = true) → (∀ c, c < 256 → V c = true → Rch S a c) → Clo S V 256 → (decide (fb_ct V 256 = fb_ct S 256) && decide (0 < fb_ct S 256)) = dP (One S) := fun V hVa hVS hVR hcl => by
        rw [decide_eq_true hSpos, Bool.and_true]
        have e1 : One S ↔ fb_ct V 256 = fb_ct S 256 := by
          rw [ct_eq_iff hVS]
          exact one_iff ha hSa hVa hVR (fun c d hc hd h1 h2 h3 => hcl c d hc hd h1 h2 h3)
        by_cases e2 : fb_ct V 256 = fb_ct S 256
        · rw [decide_eq_true e2, dP_t (e1.mpr e2)]
        · rw [decide_eq_false e2, dP_f (fun z => e2 (e1.mp z))]
      refine lp_cnt 256 (fun k (t : Bool × (Nat → Int32)) => (bI t.1, nI k, t.2)) (fun k t => ∃ V, rr t.2 V ∧ V a = true ∧ (∀ c, c < 256 → V c = true → S c = true) ∧ (∀ c, c < 256 → V c = true → Rch S a c) ∧ (t.1 = true → k + 1 ≤ fb_ct V 256) ∧ (t.1 = false → Clo S V 256)) ?_ ?_ 0 (true, upd g k (rows k &&& (-(rows k)))) (by omega) ⟨_, hrr, by simp, fun c _ h => by rw [of_decide_eq_true h]; exact hSa, fun c _ h => by rw [of_decide_eq_true h]; exact Rch.rf, fun _ => ?_, fun z => Bool.noConfusion (show true = false from z)⟩
      · rintro K2 m ⟨b, f⟩ hm ⟨V, hV, hVa, hVS, hVR, hb1, hb0⟩ hK2
        show wp_X3_isOnePart_7 _ _ _ _ _ _ _
        unfold wp_X3_isOnePart_7
        dsimp only
        refine ⟨fun z => absurd z (lc_ge hm), fun _ => ?_⟩
        rw [bI_br]
        cases b
        · rw [if_neg (by decide)]
          exact fin f V hV hVS (done V hVa hVS hVR (hb0 rfl))
        · rw [if_pos rfl]
          refine k_reachFarther hS hV hVS fun b' f' V' hV' hG g1 g0 => ?_
          rw [nI_1 m]
          refine hK2 (b', f') ⟨V', hV', hG.1 a ha hVa, hG.2.1, fun c hc hVc => ?_, fun e => ?_, g0⟩
          · exact hG.2.2 (fun c => Rch S a c) hVR (fun x y hx hy h1 h2 h3 => h1.step hx hy h2 h3) c hc hVc
          · have := g1 e
            have := hb1 rfl
            omega
      · rintro K2 ⟨b, f⟩ ⟨V, hV, hVa, hVS, hVR, hb1, hb0⟩
        show wp_X3_isOnePart_7 _ _ _ _ _ _ _
        unfold wp_X3_isOnePart_7
        dsimp only
        refine ⟨fun _ => ?_, fun z => absurd lc_end z⟩
        cases b
        · exact fin f V hV hVS (done V hVa hVS hVR (hb0 rfl))
        · have := hb1 rfl
          have := fb_ct_le V 256
          omega
      · exact fb_ct_pos.mpr ⟨a, ha, decide_eq_true rfl⟩
  · rintro K _ ⟨rfl, hno⟩
    show wp_X3_reachFirst_10 _ _ _ _ _ _
    unfold wp_X3_reachFirst_10
    dsimp only
    refine ⟨fun _ => ?_, fun z => absurd (show (16 : Int32) ≤ nI 16 by decide) z⟩
    have h0 : fb_ct S 256 = 0 := fb_ct_zero.mpr fun c hc => hno c hc
    refine ⟨0 + 1, ?_⟩
    show wp_X3_isOnePart_7 rows re post (fun b0 b1 b2 => lpN (lF_X3_isOnePart_7 rows re post) 0 (b0, b1, b2)) 0 0 _
    unfold wp_X3_isOnePart_7
    dsimp only
    refine ⟨fun z => absurd z (by decide), fun _ => ⟨fun _ => fin _ _ hr0 (fun c hc h => absurd h (by decide)) ?_, fun z => absurd rfl z⟩⟩
    rw [h0, one_ct h0]; simp
theorem k_isGoodPart {rows re : Nat → Int32} {S : Nat → Bool} {post : Int32 → (Nat → Int32) → Prop} (hS : rr rows S) (h : ∀ re', post (bI (decide (cutN S = 0) && dP (One S))) re') : wp_X3_isGoodPart rows re post := by
  unfold wp_X3_isGoodPart
  refine k_cutFault hS ?_
  have hc : cutN S < 3 := by unfold cutN; split <;> (try split) <;> omega
  refine breq2 (b := 0) (by omega) (by omega) (fun z => ?_) (fun z => ?_)
  · rw [decide_eq_true z, Bool.true_and] at h
    refine k_isOnePart hS fun re' => ?_
    rw [bI_br]
    have := h re'
    cases e : dP (One S) <;> rw [e] at this <;> exact this
  · rw [decide_eq_false z, Bool.false_and] at h
    exact h re
