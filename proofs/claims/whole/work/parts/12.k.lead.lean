/-! at, length, joints, weight -/
def atZ (own : Nat → Nat) (r c : Int) : Int := if 0 ≤ r ∧ r ≤ 15 ∧ 0 ≤ c ∧ c ≤ 15 then (own (16 * r.toNat + c.toNat) : Int) else -1
theorem atZ_rng {n : Nat} {own : Nat → Nat} (hO : InvO n own) (r c : Int) : -1 ≤ atZ own r c ∧ atZ own r c < 60 := by
  unfold atZ
  split
  · have h1 := hO.2.2.1 (16 * r.toNat + c.toNat) (by omega)
    have h2 := hO.2.1
    omega
  · omega
theorem m_at {own : Nat → Nat} {of : Nat → Int32} {x y : Int32} {post : Int32 → Prop} (ho : RO of own) (h : post (iI (atZ own x.toInt y.toInt))) : wp_X5_at of x y post := by
  unfold wp_X5_at
  unfold atZ at h
  refine p_inR 0 15 (by omega) (by omega) ?_
  rw [bI_br]
  cases e1 : inR x 0 15
  · unfold inR at e1
    rw [decide_eq_false_iff_not] at e1
    rw [if_neg (by omega)] at h
    exact h
  obtain ⟨r, rfl, h1, h2⟩ := inR_t e1
  rw [if_pos rfl]
  refine p_inR 0 15 (by omega) (by omega) ?_
  rw [bI_br]
  rw [nI_toInt (by omega)] at h
  cases e2 : inR y 0 15
  · unfold inR at e2
    rw [decide_eq_false_iff_not] at e2
    rw [if_neg (by omega)] at h
    exact h
  obtain ⟨c, rfl, h3, h4⟩ := inR_t e2
  rw [nI_toInt (by omega), if_pos (by omega), Int.toNat_natCast, Int.toNat_natCast, ← iI_nat, ← ho _ (by omega)] at h
  rw [if_pos rfl, show (16 : Int32) = nI 16 from rfl, pk_mul, nI_add, nI_clamp (by omega)]
  exact ⟨vp_in_nI (by omega) (by omega), h⟩
theorem pm1 {a : Nat} (h : a < 2147483648) : (nI a - 1).toInt = (a : Int) - 1 := by
  have e := nI_toInt h
  rw [fb_subI (by rw [e, show (1 : Int32).toInt = 1 from rfl]; omega) (by rw [e, show (1 : Int32).toInt = 1 from rfl]; omega), e]
  rfl
theorem nI_brlt {a b : Nat} {A B : Prop} (ha : a < 2147483648) (hb : b < 2147483648) (h : if a < b then A else B) : (nI a < nI b → A) ∧ (¬ nI a < nI b → B) := by
  have e : (nI a < nI b) = (a < b) := by
    rw [fa_lt, nI_toInt ha, nI_toInt hb]; exact propext (by omega)
  rw [e]
  split at h
  · rename_i e; exact ⟨fun _ => h, fun z => absurd e z⟩
  · rename_i e; exact ⟨fun z => absurd z e, fun _ => h⟩
/-- 1 where two differ -/
def df (x y : Int) : Nat := if x = y then 0 else 1
theorem df_br {n : Nat} {own : Nat → Nat} (hO : InvO n own) {r c r2 c2 : Int} {A B : Prop} (h : if df (atZ own r c) (atZ own r2 c2) = 0 then A else B) : (iI (atZ own r c) = iI (atZ own r2 c2) → A) ∧ (¬ iI (atZ own r c) = iI (atZ own r2 c2) → B) := by
  have h1 := atZ_rng hO r c
  have h2 := atZ_rng hO r2 c2
  rw [iI_eq (by omega) (by omega)]
  unfold df at h
  by_cases e : atZ own r c = atZ own r2 c2
  · rw [if_pos e, if_pos rfl] at h; exact ⟨fun _ => h, fun z => absurd e z⟩
  · rw [if_neg e, if_neg (by decide)] at h; exact ⟨fun z => absurd z e, fun _ => h⟩
theorem df_01 (x y : Int) : df x y = 0 ∨ df x y = 1 := by unfold df; split <;> simp
def vE (own : Nat → Nat) (a b : Nat) : Nat := df (atZ own ((a : Int) - 1) b) (atZ own a b)
def hE (own : Nat → Nat) (a b : Nat) : Nat := df (atZ own b ((a : Int) - 1)) (atZ own b a)
def lenN (own : Nat → Nat) : Nat := fb_sm (fun a => fb_sm (fun b => vE own a b + hE own a b) 16) 17
theorem m_length {n : Nat} {own : Nat → Nat} {of : Nat → Int32} {post : Int32 → Prop} (hO : InvO n own) (ho : RO of own) (h : post (nI (lenN own))) : wp_X5_length of post := by
  unfold wp_X5_length
  refine lp_cnt 17 (fun k (_ : Unit) => (nI (fb_sm (fun a => fb_sm (fun b => vE own a b + hE own a b) 16) k), nI k)) (fun _ _ => True) ?_ ?_ 0 () (by omega) trivial
  · rintro K a - ha - hK
    have hK := hK () trivial
    rw [fb_sm_succ] at hK
    obtain ⟨L, hL⟩ : ∃ L, L = fb_sm (fun a => fb_sm (fun b => vE own a b + hE own a b) 16) a := ⟨_, rfl⟩
    rw [← hL] at hK ⊢
    show wp_X5_length_4 _ _ _ _ _
    unfold wp_X5_length_4
    dsimp only
    refine nI_brlt (a := 16) (by omega) (by omega) ?_
    rw [if_neg (by omega)]
    refine lp_cnt 16 (fun k (_ : Unit) => (nI (L + fb_sm (fun b => vE own a b + hE own a b) k), nI a, nI k)) (fun _ _ => True) ?_ ?_ 0 () (by omega) trivial
    · rintro K2 b - hb - hK2
      have hK2 := hK2 () trivial
      rw [fb_sm_succ] at hK2
      show wp_X5_length_12 _ _ _ _ _ _ _
      unfold wp_X5_length_12
      dsimp only
      refine nI_brl (a := 16) (by omega) (by omega) ?_
      rw [if_neg (by omega)]
      refine m_at ho (m_at ho ?_)
      rw [pm1 (by omega), nI_toInt (by omega), nI_toInt (by omega)]
      have key : ∀ s1, s1 = vE own a b → wp_X5_length_41 of post (fun b0 b1 => K (b0, b1)) (fun b0 b1 b2 => K2 (b0, b1, b2)) (nI (L + fb_sm (fun b => vE own a b + hE own a b) b)) (nI s1) (nI a) (nI b) := fun s1 hs1 => by
        unfold wp_X5_length_41 wp_X5_length_63
        refine m_at ho (m_at ho ?_)
        rw [pm1 (by omega), nI_toInt (by omega), nI_toInt (by omega), nI_1 b, show (0 : Int32) = nI 0 from rfl, show (1 : Int32) = nI 1 from rfl, nI_add, nI_add, nI_add, nI_add]
        refine df_br hO ?_
        unfold hE at hK2
        rw [← hs1] at hK2
        rcases df_01 (atZ own b ((a : Int) - 1)) (atZ own b a) with e | e <;> rw [e] at hK2 ⊢
        · rw [if_pos rfl]; rw [← Nat.add_assoc] at hK2 ⊢; exact hK2
        · rw [if_neg (by decide)]; rw [← Nat.add_assoc] at hK2 ⊢; exact hK2
      refine df_br hO ?_
      have e0 : df (atZ own ((a : Int) - 1) b) (atZ own a b) = vE own a b := rfl
      rw [e0]
      rcases df_01 (atZ own ((a : Int) - 1) b) (atZ own a b) with e | e <;> rw [e0] at e
      · rw [e, if_pos rfl]; exact key 0 e.symm
      · rw [e, if_neg (by decide)]; exact key 1 e.symm
    · rintro K2 - -
      show wp_X5_length_12 _ _ _ _ _ _ _
      unfold wp_X5_length_12
      dsimp only
      rw [nI_1 a]
      exact ⟨fun _ => hK, fun z => absurd (show (16 : Int32) ≤ nI 16 by decide) z⟩
  · rintro K - -
    show wp_X5_length_4 _ _ _ _ _
    unfold wp_X5_length_4
    exact ⟨fun _ => h, fun z => absurd (show (16 : Int32) < nI 17 by decide) z⟩
theorem m_lead {n : Nat} {own : Nat → Nat} {of : Nat → Int32} {t : Int32} {post : Int32 → Int32 → Prop} (hO : InvO n own) (ho : RO of own) (h : post (nI (lenN own)) 0) : wp_X5_lead t of post := by
  unfold wp_X5_lead
  rintro _ rfl
  exact m_length hO ho h
theorem m_weight {n hw : Nat} {own : Nat → Nat} {of : Nat → Int32} {t : Int32} {post : Int32 → Int32 → Prop} (hO : InvO n own) (ho : RO of own) (h : post (nI (768 + hw * lenN own)) 0) : wp_X5_weight t of (nI hw) post := by
  unfold wp_X5_weight
  rintro _ rfl
  refine m_length hO ho ?_
  rw [show (768 : Int32) = nI 768 from rfl, pk_mul, nI_add]
  exact h
def sidN (own : Nat → Nat) (a b : Nat) : Nat := df (atZ own ((a : Int) - 1) ((b : Int) - 1)) (atZ own ((a : Int) - 1) b) + df (atZ own a ((b : Int) - 1)) (atZ own a b) + (df (atZ own ((a : Int) - 1) ((b : Int) - 1)) (atZ own a ((b : Int) - 1)) + df (atZ own ((a : Int) - 1) b) (atZ own a b))
def joiN (own : Nat → Nat) : Nat := fb_sm (fun a => fb_ct (fun b => decide (2 < sidN own a b)) 17) 17
theorem le2_br {a : Nat} {A B : Prop} (ha : a < 2147483648) (h : if 2 < a then B else A) : (nI a ≤ 2 → A) ∧ (¬ nI a ≤ 2 → B) := by
  rw [show (2 : Int32) = nI 2 from rfl, ge_lit ha (by omega)]
  split at h
  · rename_i e; exact ⟨fun z => absurd z (by omega), fun _ => h⟩
  · rename_i e; exact ⟨fun _ => h, fun z => absurd (show a ≤ 2 by omega) z⟩
theorem m_joints {n : Nat} {own : Nat → Nat} {of : Nat → Int32} {t : Int32} {post : Int32 → Int32 → Prop} (hO : InvO n own) (ho : RO of own) (h : post (nI (joiN own)) 0) : wp_X5_joints t of post := by
  unfold wp_X5_joints
  rintro _ rfl
  refine lp_cnt 17 (fun k (_ : Unit) => (nI (fb_sm (fun a => fb_ct (fun b => decide (2 < sidN own a b)) 17) k), nI k, (0 : Int32))) (fun _ _ => True) ?_ ?_ 0 () (by omega) trivial
  · rintro K a - ha - hK
    have hK := hK () trivial
    rw [fb_sm_succ] at hK
    obtain ⟨L, hL⟩ : ∃ L, L = fb_sm (fun a => fb_ct (fun b => decide (2 < sidN own a b)) 17) a := ⟨_, rfl⟩
    rw [← hL] at hK ⊢
    show wp_X5_joints_9 _ _ _ _ _ _ _
    unfold wp_X5_joints_9
    dsimp only
    refine nI_brlt (a := 16) (by omega) (by omega) ?_
    rw [if_neg (by omega)]
    refine lp_cnt 17 (fun k (_ : Unit) => (nI (L + fb_ct (fun b => decide (2 < sidN own a b)) k), nI a, nI k, (0 : Int32))) (fun _ _ => True) ?_ ?_ 0 () (by omega) trivial
    · rintro K2 b - hb - hK2
      have hK2 := hK2 () trivial
      rw [fb_ct_succ] at hK2
      have hs : sidN own a b = df (atZ own ((a : Int) - 1) ((b : Int) - 1)) (atZ own ((a : Int) - 1) b) + df (atZ own a ((b : Int) - 1)) (atZ own a b) + (df (atZ own ((a : Int) - 1) ((b : Int) - 1)) (atZ own a ((b : Int) - 1)) + df (atZ own ((a : Int) - 1) b) (atZ own a b)) := rfl
      obtain ⟨C, hC⟩ : ∃ C, C = fb_ct (fun b => decide (2 < sidN own a b)) b := ⟨_, rfl⟩
      rw [← hC] at hK2 ⊢
      show wp_X5_joints_17 _ _ _ _ _ _ _ _ _
      unfold wp_X5_joints_17
      dsimp only
      refine nI_brlt (a := 16) (by omega) (by omega) ?_
      rw [if_neg (by omega)]
      have t1 := pm1 (a := a) (by omega)
      have t2 := nI_toInt (n := a) (by omega)
      have t3 := pm1 (a := b) (by omega)
      have t4 := nI_toInt (n := b) (by omega)
      have k4 : ∀ s0 s1 s2, s0 ≤ 1 → s1 ≤ 1 → s2 ≤ 1 → ∀ d, d = df (atZ own ((a : Int) - 1) b) (atZ own a b) → s0 + s1 + (s2 + d) = sidN own a b → wp_X5_joints_102 0 of post (fun b0 b1 b2 => K (b0, b1, b2)) (fun b0 b1 b2 b3 => K2 (b0, b1, b2, b3)) (nI (s0 + s1)) (nI s2) (nI (L + C)) (nI a) (nI b) 0 := fun s0 s1 s2 q0 q1 q2 d hd he => by
        have fin : ∀ d', d' = d → wp_X5_joints_124 0 of post (fun b0 b1 b2 => K (b0, b1, b2)) (fun b0 b1 b2 b3 => K2 (b0, b1, b2, b3)) (nI (s0 + s1)) (nI s2) (nI d') (nI (L + C)) (nI a) (nI b) 0 := fun d' hd' => by
          unfold wp_X5_joints_124 wp_X5_joints_140
          subst hd'
          have hd1 := df_01 (atZ own ((a : Int) - 1) b) (atZ own a b)
          rw [nI_add, nI_add, he, nI_1 b, nI_1 (L + C), show (0 : Int32) = nI 0 from rfl, nI_add]
          refine le2_br (by omega) ?_
          split
          · rename_i z; rw [decide_eq_true z, if_pos rfl] at hK2; exact hK2
          · rename_i z; rw [decide_eq_false z] at hK2; exact hK2
        unfold wp_X5_joints_102
        refine m_at ho (m_at ho ?_)
        rw [t1, t2, t4]
        refine df_br hO ?_
        rcases df_01 (atZ own ((a : Int) - 1) b) (atZ own a b) with e | e <;> rw [← hd] at e ⊢
        · rw [if_pos e]; exact fin 0 e.symm
        · rw [if_neg (by omega)]; exact fin 1 e.symm
      have k3 : ∀ s0 s1, s0 = df (atZ own ((a : Int) - 1) ((b : Int) - 1)) (atZ own ((a : Int) - 1) b) → s1 = df (atZ own a ((b : Int) - 1)) (atZ own a b) → wp_X5_joints_71 0 of post (fun b0 b1 b2 => K (b0, b1, b2)) (fun b0 b1 b2 b3 => K2 (b0, b1, b2, b3)) (nI s0) (nI s1) (nI (L + C)) (nI a) (nI b) 0 := fun s0 s1 e0 e1 => by
        have r0 := df_01 (atZ own ((a : Int) - 1) ((b : Int) - 1)) (atZ own ((a : Int) - 1) b)
        have r1 := df_01 (atZ own a ((b : Int) - 1)) (atZ own a b)
        rw [← e0] at r0
        rw [← e1] at r1
        rw [← e0, ← e1] at hs
        unfold wp_X5_joints_71
        refine m_at ho (m_at ho ?_)
        rw [t1, t2, t3]
        rw [nI_add]
        refine df_br hO ?_
        rcases df_01 (atZ own ((a : Int) - 1) ((b : Int) - 1)) (atZ own a ((b : Int) - 1)) with e | e
        · rw [if_pos e]
          rw [e] at hs
          exact k4 s0 s1 0 (by omega) (by omega) (by omega) _ rfl hs.symm
        · rw [if_neg (by omega)]
          rw [e] at hs
          exact k4 s0 s1 1 (by omega) (by omega) (by omega) _ rfl hs.symm
      have k2 : ∀ s0, s0 = df (atZ own ((a : Int) - 1) ((b : Int) - 1)) (atZ own ((a : Int) - 1) b) → wp_X5_joints_49 0 of post (fun b0 b1 b2 => K (b0, b1, b2)) (fun b0 b1 b2 b3 => K2 (b0, b1, b2, b3)) (nI s0) (nI (L + C)) (nI a) (nI b) 0 := fun s0 e0 => by
        unfold wp_X5_joints_49
        refine m_at ho (m_at ho ?_)
        rw [t2, t3, t4]
        refine df_br hO ?_
        rcases df_01 (atZ own a ((b : Int) - 1)) (atZ own a b) with e | e
        · rw [if_pos e]; exact k3 s0 0 e0 e.symm
        · rw [if_neg (by omega)]; exact k3 s0 1 e0 e.symm
      refine m_at ho (m_at ho ?_)
      rw [t1, t3, t4]
      refine df_br hO ?_
      rcases df_01 (atZ own ((a : Int) - 1) ((b : Int) - 1)) (atZ own ((a : Int) - 1) b) with e | e
      · rw [if_pos e]; exact k2 0 e.symm
      · rw [if_neg (by omega)]; exact k2 1 e.symm
    · rintro K2 - -
      show wp_X5_joints_17 _ _ _ _ _ _ _ _ _
      unfold wp_X5_joints_17
      dsimp only
      rw [nI_1 a]
      exact ⟨fun _ => hK, fun z => absurd (show (16 : Int32) < nI 17 by decide) z⟩
  · rintro K - -
    show wp_X5_joints_9 _ _ _ _ _ _ _
    unfold wp_X5_joints_9
    exact ⟨fun _ => h, fun z => absurd (show (16 : Int32) < nI 17 by decide) z⟩
