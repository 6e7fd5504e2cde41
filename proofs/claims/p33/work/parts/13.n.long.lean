/-! the class: pieces as sets of a long: present, crossedBehind, findSupports, lowestReady, putInAt -/
def rL (x : Int64) (P : Nat → Bool) : Prop := ∀ i, i < 64 → btL x i = P i
theorem rL.one {x : Int64} {P : Nat → Bool} (h : rL x P) {q : Nat} (hq : q < 64) : rL (x ||| ((1 : Int64) <<< ((nI q).toInt64 &&& 63))) (fun i => P i || decide (i = q)) := fun i hi => by
  rw [l_or, h i hi, l_one q hq i hi]
theorem pres_ge {n : Nat} {own : Nat → Nat} (hO : InvO n own) {p : Nat} (hp : n ≤ p) : pres own p = false := by
  have : cnt own p = 0 := fb_ct_zero.mpr fun k hk => decide_eq_false (by have := hO.2.2.1 k hk; omega)
  unfold pres; rw [this]; rfl
theorem ct_ge {P : Nat → Bool} {n m : Nat} (hn : n ≤ m) (h : ∀ p, n ≤ p → P p = false) : fb_ct P m = fb_ct P n := by
  rw [show m = n + (m - n) by omega, fb_ct_split]
  have : fb_ct (fun k => P (n + k)) (m - n) = 0 := fb_ct_zero.mpr fun k _ => h _ (by omega)
  omega
theorem any_pres {own : Nat → Nat} {p : Nat} : anyB (fun c => decide (own c = p)) 256 = pres own p := by
  unfold pres cnt
  rw [Bool.eq_iff_iff, anyB_iff, decide_eq_true_iff, fb_ct_pos]
theorem k_present {n : Nat} {own : Nat → Nat} {of : Nat → Int32} {post : Int64 → Prop} (hO : InvO n own) (ho : RO of own) (h : ∀ x, rL x (pres own) → post x) : wp_X0_present of post := by
  unfold wp_X0_present
  refine lp_cnt 256 (fun k (x : Int64) => (x, (256 : Int32), nI k)) (fun k x => rL x fun i => anyB (fun c => decide (own c = i)) k) ?_ ?_ 0 0 (by omega) (fun i _ => l_0 i)
  · rintro K k x hk hx hK
    show wp_X0_present_14 _ _ _ _ _ _
    unfold wp_X0_present_14
    dsimp only
    refine ⟨fun z => absurd z (lc_ge hk), fun _ => ⟨lc_in hk, ?_⟩⟩
    have := hO.2.2.1 k hk
    have := hO.2.1
    rw [nI_clamp (show k < 2147483648 by omega), ho k hk, nI_1 k]
    rintro _ rfl
    refine hK _ fun i hi => ?_
    have e := hx.one (show own k < 64 by omega) i hi
    dsimp only at e ⊢
    rw [e, anyB]
    congr 1
    exact decide_eq_decide.mpr ⟨fun e => e.symm, fun e => e.symm⟩
  · rintro K x hx
    show wp_X0_present_14 _ _ _ _ _ _
    unfold wp_X0_present_14
    dsimp only
    exact ⟨fun _ => h x fun i hi => (hx i hi).trans any_pres, fun z => absurd lc_end z⟩
theorem k_pieces {n : Nat} {own : Nat → Nat} {of : Nat → Int32} {post : Int32 → Prop} (hO : InvO n own) (ho : RO of own) (h : post (nI (fb_ct (pres own) n))) : wp_X4_pieces of post := by
  unfold wp_X4_pieces
  refine k_present hO ho fun x hx => pcl_w ?_
  have := hO.2.1
  rw [fb_ct_cong hx, ct_ge (show n ≤ 64 by omega) fun p hp => pres_ge hO hp]
  exact h
theorem k_crossedBehind {n r : Nat} {own : Nat → Nat} {of : Nat → Int32} {post : Int32 → Prop} (hO : InvO n own) (ho : RO of own) (hr : r < 15) (h : post (nI (crsN n own r))) : wp_X0_crossedBehind of (nI r) post := by
  have hn := hO.2.1
  unfold wp_X0_crossedBehind
  refine lp_cnt 16 (fun k (x : Int64) => (x, nI k)) (fun k x => rL x (crsB own r k)) ?_ ?_ 0 0 (by omega) (fun i _ => l_0 i)
  · rintro K k x hk hx hK
    show wp_X0_crossedBehind_5 _ _ _ _ _ _
    unfold wp_X0_crossedBehind_5
    dsimp only
    refine brle2 (a := 16) (by omega) (by omega) (fun z => absurd z (by omega)) (fun _ => ?_)
    rw [nI_1 k]
    refine k_ownerAt ho ?_
    have o1 := hO.2.2.1 (16 * r + k) (by omega)
    have o2 := hO.2.2.1 (16 * (r + 1) + k) (by omega)
    rw [nI_toInt (by omega), nI_toInt (by omega), atZ_in (by omega) hk, ← iI_nat]
    have eS : ∀ p, crsB own r (k + 1) p = (crsB own r k p || (decide (own (16 * r + k) = own (16 * (r + 1) + k)) && decide (p = own (16 * r + k)))) := fun p => rfl
    refine ⟨fun z => absurd z (nI_ne_m1 (by omega)), fun _ => k_ownerAt ho ?_⟩
    rw [nI_1 r, nI_toInt (by omega), nI_toInt (by omega), atZ_in (by omega) hk, ← iI_nat]
    refine breq2 (by omega) (by omega) (fun z => ?_) (fun z => hK x fun i hi => ?_)
    · rintro _ rfl
      refine hK _ fun i hi => ?_
      rw [hx.one (show own (16 * r + k) < 64 by omega) i hi, eS, decide_eq_true z, Bool.true_and]
    · rw [hx i hi, eS, decide_eq_false z]; simp
  · rintro K x hx
    show wp_X0_crossedBehind_5 _ _ _ _ _ _
    unfold wp_X0_crossedBehind_5
    dsimp only
    refine ⟨fun _ => pcl_w ?_, fun z => absurd (show (16 : Int32) ≤ nI 16 by decide) z⟩
    rw [fb_ct_cong hx, ct_ge (show n ≤ 64 by omega) fun p hp => ?_]
    · exact h
    · cases e : crsB own r 16 p
      · rfl
      · unfold crsB at e
        obtain ⟨c, hc, g⟩ := anyB_iff.mp e
        rw [Bool.and_eq_true, decide_eq_true_iff, decide_eq_true_iff] at g
        have := hO.2.2.1 (16 * r + c) (by omega)
        omega
theorem k_isNumber {x : Int32} {post : Int32 → Prop} (h : post (bI (decide (0 ≤ x.toInt ∧ x.toInt < 60)))) : wp_X4_isNumber x post := by
  unfold wp_X4_isNumber
  rw [fa_lt, show (0 : Int32).toInt = 0 from rfl, fa_le, show (60 : Int32).toInt = 60 from rfl]
  by_cases c : 0 ≤ x.toInt ∧ x.toInt < 60
  · rw [decide_eq_true c] at h
    exact ⟨fun z => absurd z (by omega), fun _ => ⟨fun z => absurd z (by omega), fun _ => h⟩⟩
  · rw [decide_eq_false c] at h
    exact ⟨fun _ => h, fun z => ⟨fun _ => h, fun z2 => absurd ⟨by omega, by omega⟩ c⟩⟩
def rS (f : Nat → Int64) (P : Nat → Nat → Bool) : Prop := ∀ p, p < 60 → rL (f p) (P p)
theorem k_addSupport {f : Nat → Int64} {P : Nat → Nat → Bool} {a : Nat} {y : Int} {post : (Nat → Int64) → Prop} (hf : rS f P) (ha : a < 60) (hy : -1 ≤ y ∧ y < 60) (h : ∀ f', rS f' (fun p i => P p i || (decide (a = p) && decide (y = (i : Int)) && decide (p ≠ i))) → post f') : wp_X0_addSupport f (nI a) (iI y) post := by
  have same : (∀ p i : Nat, p < 60 → (decide (a = p) && decide (y = (i : Int)) && decide (p ≠ i)) = false) → post f := fun hz => h f fun p hp i hi => by
    dsimp only
    rw [hf p hp i hi, hz p i hp, Bool.or_false]
  unfold wp_X0_addSupport
  rw [iI_nat a, iI_eq (by omega) (by omega)]
  refine ⟨fun z => same fun p i hp => ?_, fun z => k_isNumber ?_⟩
  · by_cases g : a = p
    · by_cases g2 : y = (i : Int)
      · rw [decide_eq_false (show ¬ p ≠ i by omega), Bool.and_false]
      · rw [decide_eq_false g2]; simp
    · rw [decide_eq_false g]; rfl
  rw [bI_br, iI_toInt (by omega), decide_eq_true (show (0 : Int) ≤ (a : Int) ∧ (a : Int) < 60 by omega), if_pos rfl]
  refine k_isNumber ?_
  rw [bI_br, iI_toInt (by omega)]
  by_cases g : 0 ≤ y
  · obtain ⟨b, rfl⟩ := Int.eq_ofNat_of_zero_le g
    rw [decide_eq_true (show (0 : Int) ≤ (b : Int) ∧ (b : Int) < 60 by omega), if_pos rfl, ← iI_nat, ← iI_nat, nI_clamp (show a < 2147483648 by omega)]
    refine ⟨in60 ha, in60 ha, ?_⟩
    rintro _ rfl
    refine h _ fun p hp i hi => ?_
    dsimp only
    by_cases e : p = a
    · subst e
      have eo := (hf p hp).one (show b < 64 by omega) i hi
      dsimp only at eo
      rw [pk_uLs, eo, decide_eq_true rfl, Bool.true_and]
      congr 1
      by_cases e2 : i = b
      · subst e2
        rw [decide_eq_true rfl, decide_eq_true rfl, decide_eq_true (show p ≠ i by omega)]; rfl
      · rw [decide_eq_false e2, decide_eq_false (show ¬ ((b : Nat) : Int) = (i : Int) by omega)]; rfl
    · rw [pk_uLn e, hf p hp i hi, decide_eq_false (show ¬ a = p from fun z => e z.symm)]
      simp
  · rw [decide_eq_false (show ¬ ((0 : Int) ≤ y ∧ y < 60) by omega), if_neg (by decide)]
    exact same fun p i hp => by rw [decide_eq_false (show ¬ y = (i : Int) by omega)]; simp
theorem p_fillL {n : Nat} (hn : n < 2147483648) {f : Nat → Int64} {x : Int64} {post : (Nat → Int64) → Prop} (h : ∀ f', (∀ i, i < n → f' i = x) → post f') : wp_J7_fill_d0a16 n f x post := by
  unfold wp_J7_fill_d0a16
  rw [show Int32.ofNat n = nI n from rfl]
  refine lp_cnt n (fun k (g : Nat → Int64) => (nI k, nI n, g)) (fun k g => ∀ i, i < k → g i = x) ?_ ?_ 0 f (by omega) (fun i hi => absurd hi (Nat.not_lt_zero i))
  · rintro K k g hk hg hK
    show wp_J7_fill_d0a16_6 _ _ _ _ _ _ _ _
    unfold wp_J7_fill_d0a16_6
    refine brle2 (by omega) (by omega) (fun z => absurd z (by omega)) (fun _ => ⟨vp_in_nI hk hn, ?_⟩)
    rw [nI_clamp (by omega), nI_1 k]
    rintro _ rfl
    refine hK _ fun i hi => ?_
    by_cases e : i = k
    · rw [e, pk_uLs]
    · rw [pk_uLn e]; exact hg i (by omega)
  · rintro K g hg
    show wp_J7_fill_d0a16_6 _ _ _ _ _ _ _ _
    unfold wp_J7_fill_d0a16_6
    exact ⟨fun _ => h g hg, fun z => absurd (Int32.le_refl _) z⟩
/-- what must stand ahead of p, from the first k cells -/
def supB (own : Nat → Nat) (k p i : Nat) : Bool := anyB (fun c => decide (own c = p) && (besQ own i (besN c 1) || besQ own i (besN c 2)) && decide (p ≠ i)) k
theorem k_findSupports {n : Nat} {own : Nat → Nat} {of : Nat → Int32} {f : Nat → Int64} {post : (Nat → Int64) → Prop} (hO : InvO n own) (ho : RO of own) (h : ∀ f', rS f' (supB own 256) → post f') : wp_X0_findSupports of f post := by
  have hn := hO.2.1
  unfold wp_X0_findSupports
  refine p_fillL (by omega) fun f0 hf0 => ?_
  refine lp_cnt 16 (fun k (g : Nat → Int64) => (nI k, g)) (fun k g => rS g (supB own (16 * k))) ?_ ?_ 0 f0 (by omega) (fun p hp i hi => by rw [hf0 p hp]; exact l_0 i)
  · rintro K a g ha hg hK
    show wp_X0_findSupports_10 _ _ _ _ _ _
    unfold wp_X0_findSupports_10
    dsimp only
    refine brle2 (a := 16) (by omega) (by omega) (fun z => absurd z (by omega)) (fun _ => ?_)
    refine lp_cnt 16 (fun k (g : Nat → Int64) => (nI a, nI k, g)) (fun k g => rS g (supB own (16 * a + k))) ?_ ?_ 0 g (by omega) hg
    · rintro K2 b g hb hg hK2
      show wp_X0_findSupports_18 _ _ _ _ _ _ _ _
      unfold wp_X0_findSupports_18
      dsimp only
      refine brle2 (a := 16) (by omega) (by omega) (fun z => absurd z (by omega)) (fun _ => ?_)
      have hc : 16 * a + b < 256 := by omega
      have hoc := hO.2.2.1 _ hc
      obtain ⟨-, -, n1, s1, n2, s2, -, -⟩ := bes_at (q := 0) hO hc
      rw [show (16 * a + b) / 16 = a by omega, show (16 * a + b) % 16 = b by omega] at n1 s1 n2 s2
      refine k_ownerAt ho (k_ownerAt ho ?_)
      rw [nI_1 a, nI_toInt (by omega), nI_toInt (by omega), nI_toInt (by omega), atZ_in ha hb, ← iI_nat]
      refine k_addSupport hg (by omega) (atZ_rng hO _ _) fun g1 hg1 => k_ownerAt ho ?_
      rw [pm1 (by omega), nI_toInt (by omega)]
      refine k_addSupport hg1 (by omega) (atZ_rng hO _ _) fun g2 hg2 => ?_
      rw [nI_1 b]
      refine hK2 g2 fun p hp i hi => ?_
      have e2 := hg2 p hp i hi
      dsimp only at e2
      rw [e2, show 16 * a + (b + 1) = 16 * a + b + 1 by omega]
      show _ = (supB own (16 * a + b) p i || (decide (own (16 * a + b) = p) && (besQ own i (besN (16 * a + b) 1) || besQ own i (besN (16 * a + b) 2)) && decide (p ≠ i)))
      rw [bes_dec n1 s1 (q := i), bes_dec n2 s2 (q := i), Bool.or_assoc]
      congr 1
      rw [show (((a + 1 : Nat)) : Int) = (a : Int) + 1 by omega]
      cases decide (own (16 * a + b) = p) <;> cases decide (atZ own ((a : Int) + 1) (b : Int) = (i : Int)) <;> cases decide (atZ own (a : Int) ((b : Int) - 1) = (i : Int)) <;> cases decide (p ≠ i) <;> rfl
    · rintro K2 g hg
      show wp_X0_findSupports_18 _ _ _ _ _ _ _ _
      unfold wp_X0_findSupports_18
      dsimp only
      rw [nI_1 a]
      refine ⟨fun _ => hK g ?_, fun z => absurd (show (16 : Int32) ≤ nI 16 by decide) z⟩
      rw [show 16 * (a + 1) = 16 * a + 16 by omega]; exact hg
  · rintro K g hg
    show wp_X0_findSupports_10 _ _ _ _ _ _
    unfold wp_X0_findSupports_10
    exact ⟨fun _ => h g hg, fun z => absurd (show (16 : Int32) ≤ nI 16 by decide) z⟩
theorem can_sup {n : Nat} {own : Nat → Nat} {I : Nat → Bool} {p : Nat} (hO : InvO n own) : canB own I p = true ↔ ∀ i, i < 64 → supB own 256 p i = true → I i = true := by
  unfold canB
  rw [allB_iff]
  have hn := hO.2.1
  constructor
  · intro h i _ hs
    unfold supB at hs
    obtain ⟨c, hc, g⟩ := anyB_iff.mp hs
    rw [Bool.and_eq_true, Bool.and_eq_true, Bool.or_eq_true, decide_eq_true_iff, decide_eq_true_iff] at g
    obtain ⟨⟨g1, g2⟩, g3⟩ := g
    have hcc := h c hc
    rw [decide_eq_true g1, Bool.true_and, Bool.not_eq_true', Bool.or_eq_false_iff] at hcc
    have way : ∀ w, besQ own i (besN c w) = true → wtB own I p c w = false → I i = true := fun w q1 q2 => by
      unfold wtB at q2
      cases hb : besN c w with
      | none => rw [hb] at q1; exact absurd q1 Bool.false_ne_true
      | some d =>
        rw [hb] at q1 q2
        have e : own d = i := of_decide_eq_true q1
        dsimp only at q2
        rw [e, decide_eq_true (show i ≠ p from fun z => g3 z.symm), Bool.true_and] at q2
        cases hI : I i
        · rw [hI] at q2; exact absurd q2 (by decide)
        · rfl
    rcases g2 with g2 | g2
    · exact way 1 g2 hcc.1
    · exact way 2 g2 hcc.2
  · intro h c hc
    by_cases g1 : own c = p
    · rw [decide_eq_true g1, Bool.true_and, Bool.not_eq_true', Bool.or_eq_false_iff]
      have way : ∀ w, (w = 1 ∨ w = 2) → wtB own I p c w = false := fun w hw => by
        unfold wtB
        cases hb : besN c w with
        | none => rfl
        | some d =>
          dsimp only
          by_cases g2 : own d = p
          · rw [decide_eq_false (show ¬ own d ≠ p from fun z => z g2)]; rfl
          · have hd := hO.2.2.1 d (besN_adj hc hb).1
            have hI := h (own d) (by omega) (by
              unfold supB
              refine anyB_iff.mpr ⟨c, hc, ?_⟩
              rw [decide_eq_true g1, decide_eq_true (show p ≠ own d from fun z => g2 z.symm), Bool.true_and, Bool.and_true, Bool.or_eq_true]
              rcases hw with e | e <;> subst e
              · left; rw [hb]; exact decide_eq_true rfl
              · right; rw [hb]; exact decide_eq_true rfl)
            rw [hI]; simp
      exact ⟨way 1 (Or.inl rfl), way 2 (Or.inr rfl)⟩
    · rw [decide_eq_false g1]; rfl
theorem k_lowestReady {n : Nat} {own : Nat → Nat} {f : Nat → Int64} {D : Nat → Bool} {x y : Int64} {post : Int32 → Prop} (hO : InvO n own) (hf : rS f (supB own 256)) (hx : rL x fun i => pres own i && !D i) (hy : rL y D) (h : ∀ r, fromJ (rdyB own D) n 0 r → post r) : wp_X0_lowestReady f x y post := by
  unfold wp_X0_lowestReady
  refine lp_cnt 60 (fun k (_ : Unit) => nI k) (fun k _ => ∀ p, p < k → rdyB own D p = false) ?_ ?_ 0 () (by omega) (fun p hp => absurd hp (Nat.not_lt_zero p))
  · rintro K k - hk hno hK
    show wp_X0_lowestReady_3 _ _ _ _ _ _
    unfold wp_X0_lowestReady_3
    rw [lg_cmp_eq, lg_cmp_eq, l_bit x (show k < 64 by omega), hx k (by omega), nI_clamp (show k < 2147483648 by omega), nI_1 k]
    have next : rdyB own D k = false → K (nI (k + 1)) := fun e => hK () fun p hp => by
      by_cases g : p = k
      · rw [g]; exact e
      · exact hno p (by omega)
    have ez : (f k &&& (y ^^^ (-1)) = 0) ↔ canB own D k = true := by
      rw [can_sup hO, l_eq0]
      constructor
      · intro g i hi hs
        have := g i hi
        rw [l_and, l_not y hi, hf k hk i hi, hs, hy i hi] at this
        cases e : D i
        · rw [e] at this; exact absurd this (by decide)
        · rfl
      · intro g i hi
        rw [l_and, l_not y hi, hf k hk i hi, hy i hi]
        cases e : supB own 256 k i
        · rfl
        · rw [g i hi e]; rfl
    refine brle2 (a := 60) (by omega) (by omega) (fun z => absurd z (by omega)) (fun _ => ⟨fun z => next ?_, fun z => ⟨in60 hk, fun z2 => ?_, fun z2 => next ?_⟩⟩)
    · have z : (pres own k && !D k) = false := z
      unfold rdyB; rw [z]; rfl
    · have z' : (pres own k && !D k) = true := by
        cases e : (pres own k && !D k)
        · exact absurd e z
        · rfl
      have hr : rdyB own D k = true := by unfold rdyB; rw [z', ez.mp z2]; rfl
      refine h _ (Or.inr ⟨k, rfl, by omega, ?_, hr, fun p _ hp => hno p hp⟩)
      rcases Nat.lt_or_ge k n with g | g
      · exact g
      · rw [pres_ge hO g] at z'; exact absurd z' Bool.false_ne_true
    · unfold rdyB
      cases e : canB own D k
      · rw [Bool.and_false]
      · exact absurd (ez.mpr e) z2
  · rintro K - hno
    show wp_X0_lowestReady_3 _ _ _ _ _ _
    unfold wp_X0_lowestReady_3
    refine ⟨fun _ => h _ (Or.inl ⟨rfl, fun p _ hp => hno p (by have := hO.2.1; omega)⟩), fun z => absurd (show (60 : Int32) ≤ nI 60 by decide) z⟩
theorem asI_sub {n : Nat} {own : Nat → Nat} : ∀ {k : Nat}, (∀ j, j < k → asO own n j < n) → ∀ p, asI own n k p = true → p < n ∧ pres own p = true
  | 0, _, p, h => absurd h Bool.false_ne_true
  | k + 1, hj, p, h => by
    rw [asI, Bool.or_eq_true, decide_eq_true_iff] at h
    rcases h with h | h
    · exact asI_sub (k := k) (fun j g => hj j (by omega)) p h
    · have hk := hj k (by omega)
      have := fa_first_yes (rdyB own (asI own n k)) n hk
      rw [← h] at this
      unfold rdyB at this
      rw [Bool.and_eq_true, Bool.and_eq_true] at this
      refine ⟨?_, this.1.1⟩
      rw [h]; exact hk
theorem asI_ct {n : Nat} {own : Nat → Nat} : ∀ {k : Nat}, (∀ j, j < k → asO own n j < n) → fb_ct (asI own n k) n = k
  | 0, _ => fb_ct_zero.mpr fun _ _ => rfl
  | k + 1, hj => by
    have hk := hj k (by omega)
    have := fa_first_yes (rdyB own (asI own n k)) n hk
    unfold rdyB at this
    rw [Bool.and_eq_true, Bool.and_eq_true, Bool.not_eq_true'] at this
    have h2 := ct_add (V := asI own n k) hk this.1.2
    rw [asI_ct (k := k) fun j g => hj j (by omega)] at h2
    exact h2
theorem k_putInAt {n : Nat} {own : Nat → Nat} {of : Nat → Int32} {f : Nat → Int64} {p : Int32} {post : Int32 → (Nat → Int64) → Prop} (hO : InvO n own) (ho : RO of own) (h : ∀ f', post (asA own n p) f') : wp_X0_putInAt of f p post := by
  have hn := hO.2.1
  unfold wp_X0_putInAt
  refine k_findSupports hO ho fun f1 hf1 => k_present hO ho fun x hx => ?_
  obtain ⟨T, hT⟩ : ∃ T, T = fb_ct (pres own) n := ⟨_, rfl⟩
  have hTn : T ≤ n := by rw [hT]; exact fb_ct_le _ _
  unfold asA at h
  rw [← hT] at h
  refine lp_cnt T (fun k (t : Int64 × Int32) => (x, t.1, t.2, nI k, f1)) (fun k t => (∀ j, j < k → asO own n j < n) ∧ rL t.1 (asI own n k) ∧ t.2 = (if 0 ≤ p.toInt ∧ p.toInt < (k : Int) then nI (asO own n (tN p)) else -1)) ?_ ?_ 0 (0, -1) (by omega) ⟨fun j hj => absurd hj (Nat.not_lt_zero j), fun i _ => l_0 i, by rw [if_neg (by omega)]⟩
  · rintro K k ⟨y, fd⟩ hk ⟨hj, hy, hfd⟩ hK
    dsimp only at hy hfd
    show wp_X0_putInAt_18 _ _ _ _ _ _ _ _ _ _
    unfold wp_X0_putInAt_18
    dsimp only
    refine brle2 (a := 60) (by omega) (by omega) (fun z => absurd z (by omega)) (fun _ => ⟨fun z => ?_, fun _ => ?_⟩)
    · -- all done: then k were all
      exfalso
      rw [lg_cmp_eq] at z
      have e : fb_ct (asI own n k) n = fb_ct (pres own) n := fb_ct_cong fun i hi => by
        rw [← hy i (by omega), ← hx i (by omega), z]
      rw [asI_ct hj, ← hT] at e
      omega
    refine k_lowestReady hO hf1 (D := asI own n k) (fun i hi => by rw [l_and, l_not y hi, hx i hi, hy i hi]) hy fun r hr => ?_
    rcases fromJ_0 hr with ⟨e, hno⟩ | ⟨e, hyes⟩
    · refine ⟨fun _ => ?_, fun z => absurd e z⟩
      have h := h f1
      rw [show allB (fun k => decide (asO own n k < n)) T = false from by
        cases g : allB (fun k => decide (asO own n k < n)) T
        · rfl
        · exact absurd (of_decide_eq_true (allB_iff.mp g k hk)) hno, Bool.false_and, if_neg (by decide)] at h
      exact h
    · have hq : fa_first (rdyB own (asI own n k)) n < n := hyes
      obtain ⟨q, hqd⟩ : ∃ q, q = fa_first (rdyB own (asI own n k)) n := ⟨_, rfl⟩
      rw [← hqd] at e hq
      have hqO : asO own n k = q := hqd.symm
      refine ⟨fun z => absurd z (by rw [e]; exact nI_ne_m1 (by omega)), fun _ => ?_⟩
      have hj' : ∀ j, j < k + 1 → asO own n j < n := fun j hj2 => by
        by_cases g : j = k
        · rw [g, hqO]; exact hq
        · exact hj j (by omega)
      have go : ∀ fd', fd' = (if 0 ≤ p.toInt ∧ p.toInt < ((k + 1 : Nat) : Int) then nI (asO own n (tN p)) else -1) → wp_X0_putInAt_66 of f p post (fun b0 b1 b2 b3 b4 => K (b0, b1, b2, b3, b4)) x y fd' (nI k) r f1 := fun fd' hfd' => by
        unfold wp_X0_putInAt_66
        rw [e, nI_1 k]
        rintro _ rfl
        refine hK (_, fd') ⟨hj', fun i hi => ?_, hfd'⟩
        rw [hy.one (show q < 64 by omega) i hi, asI, hqd]
      obtain ⟨z, hz, rfl⟩ := ex_z p
      rw [iI_toInt hz] at hfd go
      rw [iI_nat k, iI_eq (by omega) hz]
      rw [← iI_nat k]
      refine ⟨fun z2 => go r ?_, fun z2 => go fd ?_⟩
      · rw [if_pos (by omega), e, ← hqO, ← z2, ← iI_nat, tN_nI (by omega)]
      · rw [hfd]
        by_cases g : 0 ≤ z ∧ z < (k : Int)
        · rw [if_pos g, if_pos (by omega)]
        · rw [if_neg g, if_neg (by omega)]
  · rintro K ⟨y, fd⟩ ⟨hj, hy, hfd⟩
    dsimp only at hy hfd
    show wp_X0_putInAt_18 _ _ _ _ _ _ _ _ _ _
    unfold wp_X0_putInAt_18
    dsimp only
    have h := h f1
    rw [allB_iff.mpr fun j hj2 => decide_eq_true (hj j hj2), Bool.true_and] at h
    have hp : post fd f1 := by
      rw [hfd]
      by_cases g : 0 ≤ p.toInt ∧ p.toInt < (T : Int)
      · rw [if_pos g]; rw [decide_eq_true g, if_pos rfl] at h; exact h
      · rw [if_neg g]; rw [decide_eq_false g, if_neg (by decide)] at h; exact h
    refine ⟨fun _ => hp, fun _ => ⟨fun _ => hp, fun z => absurd ?_ z⟩⟩
    rw [lg_cmp_eq]
    refine l_ext fun i hi => ?_
    rw [hy i hi, hx i hi]
    have e := asI_ct hj
    have hs : ∀ c, c < n → asI own n T c = true → pres own c = true := fun c _ hc => (asI_sub hj c hc).2
    rcases Nat.lt_or_ge i n with g | g
    · have e2 := (ct_eq_iff hs).mp (by rw [e, hT]) i g
      have e3 := hs i g
      cases h1 : asI own n T i <;> cases h2 : pres own i <;> simp_all
    · rw [pres_ge hO g]
      cases h1 : asI own n T i
      · rfl
      · have := (asI_sub hj i h1).1
        omega
