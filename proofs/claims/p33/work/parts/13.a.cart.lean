/-! the class: Cartoon's small methods -/
theorem k_ownerAt {own : Nat → Nat} {of : Nat → Int32} {x y : Int32} {post : Int32 → Prop} (ho : RO of own) (h : post (iI (atZ own x.toInt y.toInt))) : wp_X0_ownerAt of x y post := by
  unfold wp_X0_ownerAt
  unfold atZ at h
  have k0 : (0 : Int32).toInt = 0 := rfl
  have k16 : (16 : Int32).toInt = 16 := rfl
  refine ⟨fun z => ?_, fun z => ⟨fun z2 => ?_, fun z2 => ⟨fun z3 => ?_, fun z3 => ⟨fun z4 => ?_, fun z4 => ?_⟩⟩⟩⟩
  · rw [fa_lt, k0] at z
    rw [if_neg (by omega)] at h; exact h
  · rw [fa_le, k16] at z2
    rw [if_neg (by omega)] at h; exact h
  · rw [fa_lt, k0] at z3
    rw [if_neg (by omega)] at h; exact h
  · rw [fa_lt, k0] at z z3
    rw [fa_le, k16] at z2
    rw [fa_lt, k16] at z4
    obtain ⟨r, hr⟩ : ∃ r, r = x.toInt.toNat := ⟨_, rfl⟩
    obtain ⟨c, hc⟩ : ∃ c, c = y.toInt.toNat := ⟨_, rfl⟩
    have ex : x = nI r := by rw [hr, iI_nat, Int.toNat_of_nonneg (by omega)]; exact iI_self x
    have ey : y = nI c := by rw [hc, iI_nat, Int.toNat_of_nonneg (by omega)]; exact iI_self y
    rw [if_pos (by omega), ← hr, ← hc] at h
    subst ex
    subst ey
    rw [show (16 : Int32) = nI 16 from rfl, pk_mul, nI_add, Nat.mul_comm r 16, nI_clamp (by omega), ho _ (by omega), iI_nat]
    exact ⟨vp_in_nI (by omega) (by omega), h⟩
  · rw [fa_lt, k16] at z4
    rw [if_neg (by omega)] at h; exact h
theorem k_holds {own : Nat → Nat} {of : Nat → Int32} {q : Nat} {post : Int32 → Prop} (ho : RO of own) (hlt : ∀ c, c < 256 → own c < 60) (hq : q < 60) (h : post (bI (pres own q))) : wp_X0_holds of (nI q) post := by
  unfold wp_X0_holds
  refine lp_cnt 256 (fun k (_ : Unit) => ((256 : Int32), nI k)) (fun k _ => ∀ c, c < k → own c ≠ q) ?_ ?_ 0 () (by omega) (fun c hc => absurd hc (Nat.not_lt_zero c))
  · rintro K k - hk hI hK
    show wp_X0_holds_11 _ _ _ _ _ _
    unfold wp_X0_holds_11
    dsimp only
    refine ⟨fun z => absurd z (lc_ge hk), fun _ => ⟨lc_in hk, ?_⟩⟩
    have := hlt k hk
    rw [nI_clamp (by omega), ho k hk, nI_1 k]
    refine breq2 (by omega) (by omega) (fun z => ?_) (fun z => hK () fun c hc => ?_)
    · have e : pres own q = true := by rw [← z]; exact decide_eq_true (cnt_pos hk)
      rw [e] at h; exact h
    · by_cases e : c = k
      · rw [e]; exact z
      · exact hI c (by omega)
  · rintro K - hI
    show wp_X0_holds_11 _ _ _ _ _ _
    unfold wp_X0_holds_11
    dsimp only
    refine ⟨fun _ => ?_, fun z => absurd lc_end z⟩
    have e : pres own q = false := by
      have : cnt own q = 0 := fb_ct_zero.mpr fun k hk => decide_eq_false (hI k hk)
      unfold pres; rw [this]; rfl
    rw [e] at h; exact h
theorem k_hand {own : Nat → Nat} {of : Nat → Int32} {c q : Nat} {post : (Nat → Int32) → Prop} (ho : RO of own) (hc : c < 256) (h : ∀ of', RO of' (ownG own c q) → post of') : wp_X0_hand of (nI c) (nI q) post := by
  unfold wp_X0_hand
  refine ⟨fun z => absurd z ?_, fun _ => ⟨fun z => absurd z (lc_ge hc), fun _ => ⟨lc_in hc, ?_⟩⟩⟩
  · rw [fa_lt, nI_toInt (by omega), show (0 : Int32).toInt = 0 from rfl]; omega
  rw [nI_clamp (by omega)]
  rintro _ rfl
  exact h _ (ho.g c q)
theorem bes_at {n : Nat} {own : Nat → Nat} {c q : Nat} (hO : InvO n own) (hc : c < 256) :
    (besN c 0 = none → atZ own (((c / 16 : Nat) : Int) - 1) ((c % 16 : Nat) : Int) = -1) ∧ (∀ d, besN c 0 = some d → atZ own (((c / 16 : Nat) : Int) - 1) ((c % 16 : Nat) : Int) = own d) ∧
    (besN c 1 = none → atZ own (((c / 16 : Nat) : Int) + 1) ((c % 16 : Nat) : Int) = -1) ∧ (∀ d, besN c 1 = some d → atZ own (((c / 16 : Nat) : Int) + 1) ((c % 16 : Nat) : Int) = own d) ∧
    (besN c 2 = none → atZ own ((c / 16 : Nat) : Int) (((c % 16 : Nat) : Int) - 1) = -1) ∧ (∀ d, besN c 2 = some d → atZ own ((c / 16 : Nat) : Int) (((c % 16 : Nat) : Int) - 1) = own d) ∧
    (besN c 3 = none → atZ own ((c / 16 : Nat) : Int) (((c % 16 : Nat) : Int) + 1) = -1) ∧ (∀ d, besN c 3 = some d → atZ own ((c / 16 : Nat) : Int) (((c % 16 : Nat) : Int) + 1) = own d) := by
  unfold besN atZ
  refine ⟨fun h => ?_, fun d h => ?_, fun h => ?_, fun d h => ?_, fun h => ?_, fun d h => ?_, fun h => ?_, fun d h => ?_⟩
  · rw [if_pos rfl] at h
    split at h
    · exact if_neg (by omega)
    · cases h
  · rw [if_pos rfl] at h
    split at h
    · cases h
    · injection h with h
      rw [if_pos (by omega)]
      exact congrArg (fun x => ((own x : Nat) : Int)) (by omega)
  · rw [if_neg (by omega), if_pos rfl] at h
    split at h
    · exact if_neg (by omega)
    · cases h
  · rw [if_neg (by omega), if_pos rfl] at h
    split at h
    · cases h
    · injection h with h
      rw [if_pos (by omega)]
      exact congrArg (fun x => ((own x : Nat) : Int)) (by omega)
  · rw [if_neg (by omega), if_neg (by omega), if_pos rfl] at h
    split at h
    · exact if_neg (by omega)
    · cases h
  · rw [if_neg (by omega), if_neg (by omega), if_pos rfl] at h
    split at h
    · cases h
    · injection h with h
      rw [if_pos (by omega)]
      exact congrArg (fun x => ((own x : Nat) : Int)) (by omega)
  · rw [if_neg (by omega), if_neg (by omega), if_neg (by omega)] at h
    split at h
    · exact if_neg (by omega)
    · cases h
  · rw [if_neg (by omega), if_neg (by omega), if_neg (by omega)] at h
    split at h
    · cases h
    · injection h with h
      rw [if_pos (by omega)]
      exact congrArg (fun x => ((own x : Nat) : Int)) (by omega)
def besQ (own : Nat → Nat) (q : Nat) : Option Nat → Bool
  | none => false
  | some d => decide (own d = q)
theorem bes_dec {own : Nat → Nat} {q : Nat} {o : Option Nat} {z : Int} (h1 : o = none → z = -1) (h2 : ∀ d, o = some d → z = own d) : besQ own q o = decide (z = (q : Int)) := by
  cases ho : o with
  | none =>
    have e := h1 ho
    subst e
    exact (decide_eq_false (by omega)).symm
  | some d =>
    have e := h2 d ho
    subst e
    exact decide_eq_decide.mpr (by omega)
theorem besB_eq {own : Nat → Nat} {c q : Nat} : besB own c q = ((((false || besQ own q (besN c 0)) || besQ own q (besN c 1)) || besQ own q (besN c 2)) || besQ own q (besN c 3)) := by
  unfold besB
  simp only [anyB]
  cases besN c 0 <;> cases besN c 1 <;> cases besN c 2 <;> cases besN c 3 <;> rfl
theorem k_touches {n : Nat} {own : Nat → Nat} {of : Nat → Int32} {c q : Nat} {post : Int32 → Prop} (hO : InvO n own) (ho : RO of own) (hc : c < 256) (hq : q < 60) (h : post (bI (besB own c q))) : wp_X0_touches of (nI c) (nI q) post := by
  unfold wp_X0_touches
  obtain ⟨n0, s0, n1, s1, n2, s2, n3, s3⟩ := bes_at (q := q) hO hc
  have eB : besB own c q = ((((false || decide (atZ own (((c / 16 : Nat) : Int) - 1) ((c % 16 : Nat) : Int) = (q : Int))) || decide (atZ own (((c / 16 : Nat) : Int) + 1) ((c % 16 : Nat) : Int) = (q : Int))) || decide (atZ own ((c / 16 : Nat) : Int) (((c % 16 : Nat) : Int) - 1) = (q : Int))) || decide (atZ own ((c / 16 : Nat) : Int) (((c % 16 : Nat) : Int) + 1) = (q : Int))) := by
    rw [← bes_dec n0 s0, ← bes_dec n1 s1, ← bes_dec n2 s2, ← bes_dec n3 s3]; exact besB_eq
  rw [eB] at h
  rw [nrem hc, ndiv hc, nI_1]
  have br : ∀ (r k : Int) (A B : Prop), (if atZ own r k = (q : Int) then A else B) → (iI (atZ own r k) = nI q → A) ∧ (¬ iI (atZ own r k) = nI q → B) := fun r k A B hh => by
    have := atZ_rng hO r k
    rw [iI_nat q, iI_eq (by omega) (by omega)]
    split at hh
    · rename_i e; exact ⟨fun _ => hh, fun z => absurd e z⟩
    · rename_i e; exact ⟨fun z => absurd z e, fun _ => hh⟩
  have t1 := pm1 (a := c / 16) (by omega)
  have t2 := nI_toInt (n := c / 16) (by omega)
  have t3 := pm1 (a := c % 16) (by omega)
  have t4 := nI_toInt (n := c % 16) (by omega)
  have t5 := nI_toInt (n := c / 16 + 1) (by omega)
  have t6 := nI_toInt (n := c % 16 + 1) (by omega)
  rw [Int.natCast_add] at t5 t6
  refine k_ownerAt ho (br _ _ _ _ ?_)
  rw [t1, t4]
  split
  · rename_i e; rw [decide_eq_true e] at h; simp only [Bool.or_true, Bool.true_or] at h; exact h
  rename_i e
  rw [decide_eq_false e] at h
  refine k_ownerAt ho (br _ _ _ _ ?_)
  rw [t5, t4]
  split
  · rename_i e; rw [decide_eq_true (show atZ own (((c / 16 : Nat) : Int) + 1) ((c % 16 : Nat) : Int) = (q : Int) from e)] at h; simp only [Bool.or_true, Bool.true_or] at h; exact h
  rename_i e
  rw [decide_eq_false (show ¬ atZ own (((c / 16 : Nat) : Int) + 1) ((c % 16 : Nat) : Int) = (q : Int) from e)] at h
  refine k_ownerAt ho (br _ _ _ _ ?_)
  rw [t2, t3]
  split
  · rename_i e; rw [decide_eq_true e] at h; simp only [Bool.or_true, Bool.true_or] at h; exact h
  rename_i e
  rw [decide_eq_false e, nI_1] at *
  refine k_ownerAt ho (br _ _ _ _ ?_)
  rw [t2, t6]
  split
  · rename_i e; rw [decide_eq_true (show atZ own ((c / 16 : Nat) : Int) (((c % 16 : Nat) : Int) + 1) = (q : Int) from e)] at h; exact h
  · rename_i e; rw [decide_eq_false (show ¬ atZ own ((c / 16 : Nat) : Int) (((c % 16 : Nat) : Int) + 1) = (q : Int) from e)] at h; exact h
theorem k_adjoin {n : Nat} {own : Nat → Nat} {of : Nat → Int32} {a b : Nat} {post : Int32 → Prop} (hO : InvO n own) (ho : RO of own) (ha : a < 60) (hb : b < 60) (h : post (bI (adjB own a b))) : wp_X0_adjoin of (nI a) (nI b) post := by
  have hlt : ∀ c, c < 256 → own c < 60 := fun c hc => by have := hO.2.2.1 c hc; have := hO.2.1; omega
  unfold wp_X0_adjoin
  obtain ⟨f, hf⟩ : ∃ f : Nat → Bool, f = (fun c => decide (own c = a) && besB own c b) := ⟨_, rfl⟩
  have hadj : adjB own a b = anyB f 256 := by rw [hf]; rfl
  rw [hadj] at h
  refine lp_cnt 256 (fun k (_ : Unit) => nI k) (fun k _ => anyB f k = false) ?_ ?_ 0 () (by omega) rfl
  · rintro K k - hk hI hK
    show wp_X0_adjoin_2 _ _ _ _ _ _
    unfold wp_X0_adjoin_2
    have ef : f k = (decide (own k = a) && besB own k b) := by rw [hf]
    have hok := hlt k hk
    rw [nI_clamp (by omega), ho k hk, nI_1 k]
    have next : f k = false → K (nI (k + 1)) := fun e => hK () (by rw [anyB, hI, e]; rfl)
    refine ⟨fun z => absurd z (lc_ge hk), fun _ => ⟨lc_in hk, breq2 (by omega) (by omega) (fun z => ?_) (fun z => next (by rw [ef, decide_eq_false z]; rfl))⟩⟩
    rw [decide_eq_true z, Bool.true_and] at ef
    refine k_touches hO ho hk hb ?_
    cases e : besB own k b
    · exact ⟨fun _ => next (by rw [ef, e]), fun z => absurd rfl z⟩
    · refine ⟨ne1, fun _ => ?_⟩
      have : anyB f 256 = true := anyB_iff.mpr ⟨k, hk, by rw [ef, e]⟩
      rw [this] at h; exact h
  · rintro K - hI
    show wp_X0_adjoin_2 _ _ _ _ _ _
    unfold wp_X0_adjoin_2
    refine ⟨fun _ => ?_, fun z => absurd lc_end z⟩
    rw [hI] at h; exact h
theorem k_leadsBetween {x y : Int} (hx : -1 ≤ x ∧ x < 60) (hy : -1 ≤ y ∧ y < 60) {post : Int32 → Prop} (h : post (nI (df x y))) : wp_X0_leadsBetween (iI x) (iI y) post := by
  unfold wp_X0_leadsBetween
  rw [iI_eq (by omega) (by omega)]
  unfold df at h
  by_cases e : x = y
  · rw [if_pos e] at h; exact ⟨fun _ => h, fun z => absurd e z⟩
  · rw [if_neg e] at h; exact ⟨fun z => absurd z e, fun _ => h⟩
theorem fubini (f : Nat → Nat → Nat) (m : Nat) : ∀ n, fb_sm (fun a => fb_sm (fun b => f a b) m) n = fb_sm (fun b => fb_sm (fun a => f a b) n) m
  | 0 => by
    have : ∀ k, fb_sm (fun _ => 0) k = 0 := fun k => by rw [fb_sm_const]; omega
    exact (this m).symm
  | n + 1 => by
    rw [fb_sm_succ, fubini f m n, ← fb_sm_add]
    rfl
