/-! the model's sets: setPiece, isTight, isSquare, cut, isTwo -/
theorem m_setPiece {of set : Nat → Int32} {p w : Int32} {post : Int32 → (Nat → Int32) → Prop} (S : Nat → Bool) (hS : ∀ c, c < 256 → S c = (decide (of c = p) && decide (¬ nI c = w)))
    (h : ∀ set', fillB S 256 set' → post (nI (fb_ct S 256)) set') : wp_X5_setPiece of set p w post := by
  unfold wp_X5_setPiece
  refine lp_cnt 256 (fun k (t : Int32 × (Nat → Int32)) => (t.1, nI k, t.2)) (fun k t => t.1 = nI (fb_ct S k) ∧ fillB S k t.2) ?_ ?_ 0 (0, set) (by omega) ⟨rfl, fillB_0 S set⟩
  · rintro K k ⟨n, f⟩ hk ⟨rfl, hf⟩ hK
    have key : wp_X5_setPiece_41 of set p w post (fun b0 b1 b2 => K (b0, b1, b2)) (nI k) (bI (S k)) (nI (fb_ct S k)) (nI k) f := by
      unfold wp_X5_setPiece_41
      refine ⟨lc_in hk, fun f' hf' => ⟨lc_in hk, ?_⟩⟩
      have e0 : (nI k).toNatClampNeg = k := lc_N (by omega)
      rw [e0] at hf' ⊢
      rw [nar_bI] at hf'
      have e1 : f' k = bI (S k) := by rw [hf', upd_at]
      have hf2 : fillB S (k + 1) f' := by rw [hf']; exact fillB_upd hf
      have hfin : wp_X5_setPiece_58 of set p w post (fun b0 b1 b2 => K (b0, b1, b2)) (nI (fb_ct S k)) (bI (S k)) (nI k) f' := by
        unfold wp_X5_setPiece_58
        rw [cnt_bI, nI_1]
        exact hK (nI (fb_ct S (k + 1)), f') ⟨rfl, hf2⟩
      rw [e1]
      cases hS : S k
      · rw [hS] at hfin; exact ⟨fun _ => hfin, fun z => absurd rfl z⟩
      · rw [hS] at hfin; exact ⟨fun z => absurd z (by decide), fun _ => hfin⟩
    show wp_X5_setPiece_5 _ _ _ _ _ _ _ _ _
    unfold wp_X5_setPiece_5
    refine ⟨fun z => absurd z (lc_ge hk), fun _ => ⟨lc_in hk, ?_⟩⟩
    rw [lc_N (by omega)]
    have hSk := hS k hk
    refine ⟨fun e => ⟨fun e2 => ?_, fun e2 => ?_⟩, fun e => ?_⟩
    · rw [decide_eq_true e, decide_eq_false (fun z => z e2)] at hSk; rw [hSk] at key; exact key
    · rw [decide_eq_true e, decide_eq_true e2] at hSk; rw [hSk] at key; exact key
    · rw [decide_eq_false e] at hSk; rw [hSk] at key; exact key
  · rintro K ⟨n, f⟩ ⟨rfl, hf⟩
    show wp_X5_setPiece_5 _ _ _ _ _ _ _ _ _
    unfold wp_X5_setPiece_5
    exact ⟨fun _ => h f hf, fun z => absurd lc_end z⟩
/-- where runs begin -/
def stB (f : Nat → Bool) (j : Nat) : Bool := f j && !(decide (0 < j) && f (j - 1))
def ixN (rows : Bool) (k j : Nat) : Nat := if rows then 16 * k + j else 16 * j + k
noncomputable def tB (S : Nat → Bool) (rows : Bool) : Bool := dP (∀ k, k < 16 → fb_ct (stB (fun j => S (ixN rows k j))) 16 < 2)
noncomputable def tBk (S : Nat → Bool) (rows : Bool) (n : Nat) : Bool := dP (∀ k, k < n → fb_ct (stB (fun j => S (ixN rows k j))) 16 < 2)
theorem ix_lt {rows : Bool} {k j : Nat} (hk : k < 16) (hj : j < 16) : ixN rows k j < 256 := by unfold ixN; split <;> omega
theorem ix_I (rows : Bool) (k j : Nat) : (if rows then (16 : Int32) * nI k + nI j else 16 * nI j + nI k) = nI (ixN rows k j) := by
  unfold ixN
  cases rows
  · simp only [Bool.false_eq_true, if_false]; rw [show (16 : Int32) = nI 16 from rfl, pk_mul, nI_add]
  · simp only [if_true]; rw [show (16 : Int32) = nI 16 from rfl, pk_mul, nI_add]
theorem tBk_succ (S : Nat → Bool) (rows : Bool) (n : Nat) : tBk S rows (n + 1) = (tBk S rows n && decide (fb_ct (stB (fun j => S (ixN rows n j))) 16 < 2)) := by
  unfold tBk
  by_cases h1 : ∀ k, k < n → fb_ct (stB (fun j => S (ixN rows k j))) 16 < 2
  · by_cases h2 : fb_ct (stB (fun j => S (ixN rows n j))) 16 < 2
    · rw [dP_t h1, decide_eq_true h2]
      refine dP_t (fun k hk => ?_)
      rcases Nat.lt_or_ge k n with q | q
      · exact h1 k q
      · have : k = n := by omega
        subst this; exact h2
    · rw [dP_t h1, decide_eq_false h2]
      exact dP_f (fun z => h2 (z n (by omega)))
  · rw [dP_f h1]
    exact dP_f (fun z => h1 (fun k hk => z k (by omega)))
theorem m_isTight {set : Nat → Int32} {post : Int32 → Prop} {S : Nat → Bool} (hS : fillB S 256 set) (rows : Bool) (h : post (bI (tB S rows))) : wp_X5_isTight set (bI rows) post := by
  unfold wp_X5_isTight
  have e0 : (1 : Int32) = bI (tBk S rows 0) := by
    unfold tBk
    rw [dP_t (fun k hk => absurd hk (Nat.not_lt_zero k))]; rfl
  rw [e0]
  refine lp_cnt 16 (fun k (t : Unit) => (bI (tBk S rows k), nI k)) (fun _ _ => True) ?_ ?_ 0 () (by omega) trivial
  · rintro K k - hk - hK
    show wp_X5_isTight_4 _ _ _ _ _ _
    unfold wp_X5_isTight_4
    refine ⟨fun z => absurd z (by rw [show (16 : Int32) = nI 16 from rfl, nI_leI (by omega) (by omega)]; omega), fun _ => ?_⟩
    obtain ⟨f, hf⟩ : ∃ f : Nat → Bool, f = (fun j => S (ixN rows k j)) := ⟨_, rfl⟩
    have hfS : ∀ j, S (ixN rows k j) = f j := fun j => by rw [hf]
    refine lp_cnt 16 (fun j (t : Unit) => (bI (tBk S rows k), nI k, nI (fb_ct (stB f) j), bI (decide (0 < j) && f (j - 1)), nI j)) (fun _ _ => True) ?_ ?_ 0 () (by omega) trivial
    · rintro K2 j - hj - hK2
      show wp_X5_isTight_19 _ _ _ _ _ _ _ _ _ _
      unfold wp_X5_isTight_19
      refine ⟨fun z => absurd z (by rw [show (16 : Int32) = nI 16 from rfl, nI_leI (by omega) (by omega)]; omega), fun _ => ?_⟩
      have key : wp_X5_isTight_51 set (bI rows) post (fun b0 b1 => K (b0, b1)) (fun b0 b1 b2 b3 b4 => K2 (b0, b1, b2, b3, b4)) (nI (ixN rows k j)) (bI (tBk S rows k)) (nI k) (nI (fb_ct (stB f) j)) (bI (decide (0 < j) && f (j - 1))) (nI j) := by
        have hlt := ix_lt (rows := rows) hk hj
        unfold wp_X5_isTight_51
        rw [lc_N (by omega), hS _ hlt, hfS]
        refine ⟨lc_in hlt, ?_⟩
        have fin : ∀ x : Bool, x = stB f j → wp_X5_isTight_71 set (bI rows) post (fun b0 b1 => K (b0, b1)) (fun b0 b1 b2 b3 b4 => K2 (b0, b1, b2, b3, b4)) (nI (fb_ct (stB f) j)) (bI x) (bI (tBk S rows k)) (nI k) (nI j) (bI (f j)) := by
          intro x hx
          unfold wp_X5_isTight_71
          rw [hx, cnt_bI, nI_1]
          have k2 := hK2 () trivial
          simp only [Nat.add_sub_cancel, show decide (0 < j + 1) = true from decide_eq_true (by omega), Bool.true_and] at k2
          exact k2
        cases hfj : f j with
        | false =>
          have g := fin false (by unfold stB; rw [hfj]; rfl)
          rw [hfj] at g
          exact ⟨fun _ => g, fun z => absurd rfl z⟩
        | true =>
          refine ⟨fun z => absurd z (by decide), fun _ => ?_⟩
          cases hw : (decide (0 < j) && f (j - 1)) with
          | false =>
            have g := fin true (by unfold stB; rw [hfj, hw]; rfl)
            rw [hfj] at g
            exact ⟨fun _ => g, fun z => absurd rfl z⟩
          | true =>
            have g := fin false (by unfold stB; rw [hfj, hw]; rfl)
            rw [hfj] at g
            exact ⟨fun z => absurd z (by decide), fun _ => g⟩
      have hix := ix_I rows k j
      cases rows with
      | false => exact ⟨fun _ => by simp only [Bool.false_eq_true, if_false] at hix; rw [hix]; exact key, fun z => absurd rfl z⟩
      | true => exact ⟨fun z => absurd z (by decide), fun _ => by simp only [if_true] at hix; rw [hix]; exact key⟩
    · rintro K2 - -
      show wp_X5_isTight_19 _ _ _ _ _ _ _ _ _ _
      unfold wp_X5_isTight_19
      refine ⟨fun _ => ?_, fun z => absurd (show (16 : Int32) ≤ nI 16 by decide) z⟩
      have hct : fb_ct (stB f) 16 ≤ 16 := fb_ct_le _ 16
      dsimp only
      have fin : ∀ x : Bool, x = tBk S rows (k + 1) → wp_X5_isTight_99 set (bI rows) post (fun b0 b1 => K (b0, b1)) (bI x) (nI k) := by
        intro x hx
        unfold wp_X5_isTight_99
        rw [hx, nI_1]
        exact hK () trivial
      cases ht : tBk S rows k with
      | false => exact ⟨fun _ => fin false (by rw [tBk_succ, ht]; rfl), fun z => absurd rfl z⟩
      | true =>
        refine ⟨fun z => absurd z (by decide), fun _ => ?_⟩
        rw [show (2 : Int32) = nI 2 from rfl, nI_leI (by omega) (by omega)]
        refine ⟨fun z => fin false ?_, fun z => fin true ?_⟩
        · rw [tBk_succ, ht, ← hf, decide_eq_false (show ¬ fb_ct (stB f) 16 < 2 by omega)]; rfl
        · rw [tBk_succ, ht, ← hf, decide_eq_true (show fb_ct (stB f) 16 < 2 by omega)]; rfl
  · rintro K - -
    show wp_X5_isTight_4 _ _ _ _ _ _
    unfold wp_X5_isTight_4
    exact ⟨fun _ => ⟨bI_01 _, h⟩, fun z => absurd (show (16 : Int32) ≤ nI 16 by decide) z⟩
/-- a square of cells, by its upper left one -/
def sqN (S : Nat → Bool) (r q : Nat) : Bool := decide (r < 15) && decide (q < 15) && S (16 * r + q) && S (16 * r + q + 1) && S (16 * r + 16 + q) && S (16 * r + 16 + q + 1)
def sqI (S : Nat → Bool) (a b : Int) : Bool := decide (0 ≤ a) && decide (0 ≤ b) && sqN S a.toNat b.toNat
theorem w_isSquare {set : Nat → Int32} {S : Nat → Bool} (hS : fillB S 256 set) (x y : Int32) (post : Int32 → Prop) (h : post (bI (sqI S x.toInt y.toInt))) : wp_X5_isSquare set x y post := by
  unfold wp_X5_isSquare
  rw [w_in, w_in, bI_br, bI_br]
  rw [show (0 : Int32).toInt = 0 from rfl, show (14 : Int32).toInt = 14 from rfl]
  have no : sqI S x.toInt y.toInt = false → wp_X5_isSquare_25 set x y post 0 := fun e => by
    rw [e] at h
    unfold wp_X5_isSquare_25
    exact ⟨fun _ => h, fun z => absurd rfl z⟩
  by_cases h1 : 0 ≤ x.toInt ∧ x.toInt ≤ 14
  · rw [decide_eq_true h1, if_pos rfl]
    by_cases h2 : 0 ≤ y.toInt ∧ y.toInt ≤ 14
    · rw [decide_eq_true h2, if_pos rfl]
      obtain ⟨r, hr⟩ := Int.eq_ofNat_of_zero_le h1.1
      obtain ⟨q, hq⟩ := Int.eq_ofNat_of_zero_le h2.1
      have ex : x = nI r := by rw [fa_eq, nI_toInt (by omega)]; exact hr
      have ey : y = nI q := by rw [fa_eq, nI_toInt (by omega)]; exact hq
      have hs : sqI S x.toInt y.toInt = (S (16 * r + q) && S (16 * r + q + 1) && S (16 * r + 16 + q) && S (16 * r + 16 + q + 1)) := by
        unfold sqI sqN
        rw [hr, hq]
        simp only [Int.toNat_natCast]
        rw [decide_eq_true (show (0 : Int) ≤ (r : Int) by omega), decide_eq_true (show (0 : Int) ≤ (q : Int) by omega), decide_eq_true (show r < 15 by omega), decide_eq_true (show q < 15 by omega)]
        simp
      rw [hs] at h
      subst ex ey
      unfold wp_X5_isSquare_25
      refine ⟨fun z => absurd z (by decide), fun _ => ?_⟩
      rw [show (16 : Int32) = nI 16 from rfl, pk_mul, nI_add, nI_1, nI_add, nI_add, nI_1]
      rw [lc_N (by omega), lc_N (by omega), lc_N (by omega), lc_N (by omega), hS _ (by omega), hS _ (by omega), hS _ (by omega), hS _ (by omega)]
      refine ⟨lc_in (by omega), ?_⟩
      cases e1 : S (16 * r + q) with
      | false => rw [e1] at h; exact ⟨fun _ => h, fun z => absurd rfl z⟩
      | true =>
        refine ⟨fun z => absurd z (by decide), fun _ => ⟨lc_in (by omega), ?_⟩⟩
        cases e2 : S (16 * r + q + 1) with
        | false => rw [e1, e2] at h; exact ⟨fun _ => h, fun z => absurd rfl z⟩
        | true =>
          refine ⟨fun z => absurd z (by decide), fun _ => ⟨lc_in (by omega), ?_⟩⟩
          cases e3 : S (16 * r + 16 + q) with
          | false => rw [e1, e2, e3] at h; exact ⟨fun _ => h, fun z => absurd rfl z⟩
          | true =>
            refine ⟨fun z => absurd z (by decide), fun _ => ⟨lc_in (by omega), ?_⟩⟩
            cases e4 : S (16 * r + 16 + q + 1) with
            | false => rw [e1, e2, e3, e4] at h; exact ⟨fun _ => h, fun z => absurd rfl z⟩
            | true => rw [e1, e2, e3, e4] at h; exact ⟨fun z => absurd z (by decide), fun _ => h⟩
    · rw [decide_eq_false h2]
      simp only [Bool.false_eq_true, if_false]
      refine no ?_
      unfold sqI sqN
      by_cases g : 0 ≤ y.toInt
      · rw [decide_eq_false (show ¬ y.toInt.toNat < 15 by omega)]; simp
      · rw [decide_eq_false g]; simp
  · rw [decide_eq_false h1]
    simp only [Bool.false_eq_true, if_false]
    refine no ?_
    unfold sqI sqN
    by_cases g : 0 ≤ x.toInt
    · rw [decide_eq_false (show ¬ x.toInt.toNat < 15 by omega)]; simp
    · rw [decide_eq_false g]; simp
