/-! the class: light -/
def fdF (p : Int32) : Int32 := if 0 ≤ (p ^^^ 8) then p / 8 else if p / 8 * 8 = p then p / 8 else p / 8 - 1
theorem fdF_k : ∀ k, k < 641 → fdF (nI k - 320) = iI (((k : Int) - 320) / 8) := by decide +kernel
theorem k_floorDiv {z : Int} (h1 : -320 ≤ z) (h2 : z ≤ 320) {post : Int32 → Prop} (h : post (iI (z / 8))) : wp_J9_floorDiv_7cf53 (iI z) 8 post := by
  obtain ⟨k, hk⟩ : ∃ k : Nat, (k : Int) = z + 320 := ⟨(z + 320).toNat, by omega⟩
  have e := fdF_k k (by omega)
  have ez : nI k - 320 = iI z := by
    rw [iI_nat, show (320 : Int32) = iI 320 from rfl, iI_sub]
    exact congrArg iI (by omega)
  rw [ez, show (k : Int) - 320 = z by omega] at e
  unfold fdF at e
  unfold wp_J9_floorDiv_7cf53
  rw [← e] at h
  refine ⟨by decide, fun c => ?_, fun c => ⟨fun c2 => ?_, fun c2 => ?_⟩⟩
  · rw [if_pos c] at h; exact h
  · rw [if_neg c, if_pos c2] at h; exact h
  · rw [if_neg c, if_neg c2] at h; exact h
theorem dri_bd {h D : Nat} (h1 : 7 ≤ h) (h2 : h ≤ 17) (hD : D ≤ 64) : -320 ≤ ((h : Int) - 12) * (D : Int) ∧ ((h : Int) - 12) * (D : Int) ≤ 320 := by
  constructor
  · rcases Int.le_total 0 ((h : Int) - 12) with g | g
    · have := Int.mul_nonneg g (show (0 : Int) ≤ (D : Int) by omega)
      omega
    · have : (12 - (h : Int)) * (D : Int) ≤ 5 * 64 := Int.mul_le_mul (by omega) (by omega) (by omega) (by omega)
      have e : ((h : Int) - 12) * (D : Int) = -((12 - (h : Int)) * (D : Int)) := by rw [← Int.neg_mul]; congr 1; omega
      omega
  · rcases Int.le_total 0 ((h : Int) - 12) with g | g
    · have : ((h : Int) - 12) * (D : Int) ≤ 5 * 64 := Int.mul_le_mul (by omega) (by omega) (by omega) (by omega)
      omega
    · have := Int.mul_nonpos_of_nonpos_of_nonneg g (show (0 : Int) ≤ (D : Int) by omega)
      omega
theorem k_drift {h D : Nat} (h1 : 7 ≤ h) (h2 : h ≤ 17) (hD : D ≤ 64) {post : Int32 → Prop} (hp : post (iI (driZ h D))) : wp_X4_drift (nI D) (nI h) post := by
  unfold wp_X4_drift
  have em : (nI h - 12) * nI D = iI (((h : Int) - 12) * (D : Int)) := by
    rw [iI_nat, iI_nat, show (12 : Int32) = iI 12 from rfl, iI_sub, iI_mul]
  rw [em]
  have b := dri_bd h1 h2 hD
  exact k_floorDiv b.1 b.2 hp
theorem k_sun {h : Nat} (h1 : 7 ≤ h) (h2 : h ≤ 17) {post : Int32 → Prop} (hp : post (nI (sunN h))) : wp_X4_sunAt (nI h) post := by
  unfold wp_X4_sunAt
  have e : (6 : Int32) - (if 0 ≤ (nI h - 12) then (nI h - 12) else 0 - (nI h - 12)) = nI (sunN h) := by
    have key : ∀ k, k < 11 → (6 : Int32) - (if 0 ≤ (nI (7 + k) - 12) then (nI (7 + k) - 12) else 0 - (nI (7 + k) - 12)) = nI (sunN (7 + k)) := by decide +kernel
    have := key (h - 7) (by omega)
    rw [show 7 + (h - 7) = h by omega] at this
    exact this
  rw [e]; exact hp
theorem k_depthOf {h r : Nat} (h1 : 7 ≤ h) (h2 : h ≤ 17) (hr : r < 16) {post : Int32 → Prop} (hp : post (nI (depN h r))) : wp_X4_depthOf (nI r) (nI h) post := by
  unfold wp_X4_depthOf
  have hs : 1 ≤ sunN h ∧ sunN h ≤ 6 := by unfold sunN; split <;> omega
  refine k_sun h1 h2 (brle2 (a := 1) (by omega) (by omega) (fun _ => ⟨?_, ?_⟩) (fun z => absurd hs.1 z))
  · rw [show (0 : Int32) = nI 0 from rfl, nI_inj (by omega) (by omega)]; omega
  · rw [show (16 : Int32) = nI 16 from rfl, show (4 : Int32) = nI 4 from rfl, pk_sub (by omega), pk_mul, pk_div (by omega) (by omega) (by omega)]
    exact hp
section LIGHT
variable {n cap : Nat} {own : Nat → Nat} {pd : Nat → Nat → Nat} {of : Nat → Int32} {el : Nat → Option Nat} {qc : Nat → Int32}
theorem k_colourBit {r c : Nat} {post : Int32 → Prop} (hO : InvO n own) (hP : InvP n pd) (ho : RO of own) (hc : n ≤ cap) (hc2 : cap < 2147483648) (c0 : CP qc pd 0 n) (hr : r < 16) (hcc : c < 16) (h : post (nI (2 ^ pd (own (16 * r + c)) 0))) : wp_X4_colourBit cap n of el (nI n) qc (nI r) (nI c) post := by
  have hn := hO.2.1
  have hoc := hO.2.2.1 (16 * r + c) (by omega)
  unfold wp_X4_colourBit
  refine k_ownerAt ho ?_
  rw [nI_toInt (by omega), nI_toInt (by omega), atZ_in hr hcc, ← iI_nat]
  refine k_isMade hn ?_
  rw [bI_br, nI_toInt (by omega), decide_eq_true (show (0 : Int) ≤ (own (16 * r + c) : Int) ∧ (own (16 * r + c) : Int) < (n : Int) by omega), if_pos rfl]
  refine k_get hn hc hc2 hoc ⟨_, hoc, rfl, ?_⟩
  rw [c0 _ hoc, sh_one _ (hP.1 _).1]
  exact h
theorem l_floor {d col p : Int32} {post : Int32 → Prop} {px : String → Prop} (hO : InvO n own) (hP : InvP n pd) (ho : RO of own) (hc : n ≤ cap) (hc2 : cap < 2147483648) (c0 : CP qc pd 0 n)
    (h0 : inR p 7 17 = false → px xIAE) (h1 : inR p 7 17 = true → post (nI (shwN own pd d col (tN p)))) : wp_X4_floor cap n of el (nI n) qc d col p post px := by
  unfold wp_X4_floor
  refine k_testHour h0 fun e => ?_
  have h1 := h1 e
  obtain ⟨h, rfl, hh1, hh2⟩ := inR_t e
  rw [tN_nI (by omega)] at h1
  obtain ⟨C, hC⟩ : ∃ C, C = comB d.toInt col.toInt h := ⟨_, rfl⟩
  unfold shwN at h1
  rw [← hC] at h1
  refine lp_cnt 16 (fun k (_ : Unit) => (nI (shwF own pd C (16 * k)), nI k)) (fun _ _ => True) ?_ ?_ 0 () (by omega) trivial
  · rintro K a - ha - hK
    have hK := hK () trivial
    show wp_X4_floor_10 _ _ _ _ _ _ _ _ _ _ _ _ _ _
    unfold wp_X4_floor_10
    dsimp only
    refine brle2 (a := 16) (by omega) (by omega) (fun z => absurd z (by omega)) (fun _ => k_depthOf hh1 hh2 ha ?_)
    refine lp_cnt 16 (fun k (_ : Unit) => (nI (shwF own pd C (16 * a + k)), nI a, nI (depN h a), nI k)) (fun _ _ => True) ?_ ?_ 0 () (by omega) trivial
    · rintro K2 b - hb - hK2
      have hK2 := hK2 () trivial
      show wp_X4_floor_28 _ _ _ _ _ _ _ _ _ _ _ _ _ _ _ _ _
      unfold wp_X4_floor_28
      dsimp only
      have hd := dep_le (h := h) (r := a)
      have eC : C (16 * a + b) = (decide ((depN h a : Int) = d.toInt) && decide ((b : Int) + driZ h (depN h a) = col.toInt)) := by
        rw [hC]
        unfold comB
        rw [show (16 * a + b) / 16 = a by omega, show (16 * a + b) % 16 = b by omega]
      rw [show 16 * a + (b + 1) = 16 * a + b + 1 by omega, shwF] at hK2
      rw [nI_1 b]
      have no : C (16 * a + b) = false → K2 (nI (shwF own pd C (16 * a + b)), nI a, nI (depN h a), nI (b + 1)) := fun g => by
        rw [g, if_neg (by decide), Nat.or_zero] at hK2; exact hK2
      refine brle2 (a := 16) (by omega) (by omega) (fun z => absurd z (by omega)) (fun _ => ?_)
      rw [iI_nat (depN h a), iI_p (by omega)]
      refine ⟨fun z => ?_, fun z => ?_⟩
      · rw [← iI_nat]
        refine k_drift hh1 hh2 hd ?_
        have bd := dri_bd hh1 hh2 hd
        have bz : -40 ≤ driZ h (depN h a) ∧ driZ h (depN h a) ≤ 40 := by unfold driZ; omega
        rw [iI_nat b, iI_add, iI_p (by omega)]
        refine ⟨fun z2 => ?_, fun z2 => ?_⟩
        · rw [← iI_nat]
          refine k_colourBit hO hP ho hc hc2 c0 ha hb ?_
          rw [fa_or]
          rw [eC, decide_eq_true z, decide_eq_true z2, if_pos (show (true && true) = true from rfl)] at hK2
          exact hK2
        · exact no (by rw [eC, decide_eq_false z2, Bool.and_false])
      · rw [← iI_nat]
        exact no (by rw [eC, decide_eq_false z, Bool.false_and])
    · rintro K2 - -
      show wp_X4_floor_28 _ _ _ _ _ _ _ _ _ _ _ _ _ _ _ _ _
      unfold wp_X4_floor_28
      dsimp only
      rw [nI_1 a]
      rw [show 16 * (a + 1) = 16 * a + 16 by omega] at hK
      exact ⟨fun _ => hK, fun z => absurd (show (16 : Int32) ≤ nI 16 by decide) z⟩
  · rintro K - -
    show wp_X4_floor_10 _ _ _ _ _ _ _ _ _ _ _ _ _ _
    unfold wp_X4_floor_10
    exact ⟨fun _ => h1, fun z => absurd (show (16 : Int32) ≤ nI 16 by decide) z⟩
/-- what shows, by its bits -/
theorem shw_bit {C : Nat → Bool} {i : Nat} : ∀ {k : Nat}, (shwF own pd C k).testBit i = anyB (fun c => C c && decide (pd (own c) 0 = i)) k
  | 0 => Nat.zero_testBit i
  | k + 1 => by
    rw [shwF, Nat.testBit_or, shw_bit, anyB]
    congr 1
    cases C k
    · rw [if_neg (by decide), Nat.zero_testBit]; rfl
    · rw [if_pos rfl, Nat.testBit_two_pow]; rfl
theorem shw_none {C : Nat → Bool} (h : ∀ c, c < 256 → C c = false) : ∀ {k : Nat}, k ≤ 256 → shwF own pd C k = 0
  | 0, _ => rfl
  | k + 1, hk => by rw [shwF, shw_none h (by omega), h k (by omega), if_neg (by decide)]; rfl
/-- along a ray -/
def rayF (own : Nat → Nat) (pd : Nat → Nat → Nat) (lo o : Nat) : Nat → Nat
  | 0 => 0
  | k + 1 => rayF own pd lo o k ||| 2 ^ pd (own (16 * (16 - (lo + k)) + o)) 0
theorem ray_bit {lo o i : Nat} : ∀ {k : Nat}, (rayF own pd lo o k).testBit i = anyB (fun j => decide (pd (own (16 * (16 - (lo + j)) + o)) 0 = i)) k
  | 0 => Nat.zero_testBit i
  | k + 1 => by rw [rayF, Nat.testBit_or, ray_bit, anyB, Nat.testBit_two_pow]
theorem dep_iff {h r D : Nat} (h1 : 7 ≤ h) (h2 : h ≤ 17) (hr : r < 16) : depN h r = D ↔ sunN h * D ≤ 4 * (16 - r) ∧ 4 * (16 - r) < sunN h * (D + 1) := by
  have hs : 1 ≤ sunN h ∧ sunN h ≤ 6 := by unfold sunN; split <;> omega
  unfold depN
  generalize sunN h = s at hs ⊢
  have : s = 1 ∨ s = 2 ∨ s = 3 ∨ s = 4 ∨ s = 5 ∨ s = 6 := by omega
  rcases this with rfl | rfl | rfl | rfl | rfl | rfl <;> omega
theorem lN_of {y : Int64} {o : Nat} (h : y.toInt = (o : Int)) (ho : o < 16) : y = lN o := by
  rw [fa_eq64, h, pk_lT (by omega)]
theorem if_nI_lt {a b : Nat} (ha : a < 2147483648) (hb : b < 2147483648) (x y : Nat) : (if nI a < nI b then nI x else nI y) = nI (if a < b then x else y) := by
  by_cases c : a < b
  · rw [if_pos c, if_pos (nI_lt c hb)]
  · rw [if_neg c, if_neg (nI_nlt (by omega) ha)]
theorem l_floorAnew {d col p : Int32} {post : Int32 → Prop} {px : String → Prop} (hO : InvO n own) (hP : InvP n pd) (ho : RO of own) (hc : n ≤ cap) (hc2 : cap < 2147483648) (c0 : CP qc pd 0 n)
    (h0 : inR p 7 17 = false → px xIAE) (h1 : inR p 7 17 = true → post (nI (shwN own pd d col (tN p)))) : wp_X4_floorAnew cap n of el (nI n) qc d col p post px := by
  unfold wp_X4_floorAnew
  refine k_testHour h0 fun e => ?_
  have k1 := h1 e
  clear h1
  obtain ⟨h, rfl, hh1, hh2⟩ := inR_t e
  rw [tN_nI (by omega)] at k1
  obtain ⟨C, hC⟩ : ∃ C, C = comB d.toInt col.toInt h := ⟨_, rfl⟩
  unfold shwN at k1
  rw [← hC] at k1
  have eC : ∀ c, c < 256 → (C c = true ↔ (depN h (c / 16) : Int) = d.toInt ∧ ((c % 16 : Nat) : Int) + driZ h (depN h (c / 16)) = col.toInt) := fun c _ => by
    rw [hC]
    unfold comB
    rw [Bool.and_eq_true, decide_eq_true_iff, decide_eq_true_iff]
  have none_ : (∀ c, c < 256 → ¬ C c = true) → post 0 := fun g => by
    rw [shw_none (fun c hc => by
      cases q : C c
      · rfl
      · exact absurd q (g c hc)) (Nat.le_refl 256)] at k1
    exact k1
  rw [fa_lt, show (0 : Int32).toInt = 0 from rfl, fa_le, show (64 : Int32).toInt = 64 from rfl]
  refine ⟨fun z => none_ fun c hc g => ?_, fun z => ⟨fun z2 => ?_, fun z2 => none_ fun c hc g => ?_⟩⟩
  · have := ((eC c hc).mp g).1
    omega
  case refine_3 =>
    have := ((eC c hc).mp g).1
    have := dep_le (h := h) (r := c / 16)
    omega
  obtain ⟨D, hD⟩ : ∃ D, D = d.toInt.toNat := ⟨_, rfl⟩
  have hd : d = nI D := by rw [hD, iI_nat, Int.toNat_of_nonneg (by omega)]; exact iI_self d
  have hD64 : D ≤ 64 := by omega
  subst hd
  rw [nI_toInt (by omega)] at eC
  refine k_drift hh1 hh2 hD64 ?_
  have bd := dri_bd hh1 hh2 hD64
  have bz : -40 ≤ driZ h D ∧ driZ h D ≤ 40 := by unfold driZ; omega
  intro y4 e4
  have rc := fb_rng col
  have t1 : (iI (driZ h D)).toInt64.toInt = driZ h D := by rw [Int32.toInt_toInt64, iI_toInt (by omega)]
  have t2 : col.toInt64.toInt = col.toInt := Int32.toInt_toInt64 col
  have ty : y4.toInt = col.toInt - driZ h D := by
    rw [e4, fb_subL (by rw [t1, t2]; omega) (by rw [t1, t2]; omega), t1, t2]
  have dep_of : ∀ c, c < 256 → C c = true → depN h (c / 16) = D ∧ ((c % 16 : Nat) : Int) = col.toInt - driZ h D := fun c hc g => by
    obtain ⟨g1, g2⟩ := (eC c hc).mp g
    have g3 : depN h (c / 16) = D := by omega
    rw [g3] at g2
    exact ⟨g3, by omega⟩
  rw [lg_cmp_lt, lg_cmp_lt, fa_lt64, fa_lt64, ty, show (0 : Int64).toInt = 0 from rfl, show (16 : Int64).toInt = 16 from rfl]
  refine ⟨fun z3 => none_ fun c hc g => ?_, fun z3 => ⟨fun z4 => ?_, fun z4 => none_ fun c hc g => ?_⟩⟩
  · have := (dep_of c hc g).2
    omega
  case refine_3 =>
    have := (dep_of c hc g).2
    omega
  obtain ⟨o, hoo⟩ : ∃ o : Nat, (o : Int) = col.toInt - driZ h D := ⟨(col.toInt - driZ h D).toNat, by omega⟩
  have ho16 : o < 16 := by omega
  have ey : y4 = lN o := lN_of (by rw [ty, hoo]) ho16
  have hs : 1 ≤ sunN h ∧ sunN h ≤ 6 := by unfold sunN; split <;> omega
  refine k_sun hh1 hh2 ?_
  obtain ⟨s, hsd⟩ : ∃ s, s = sunN h := ⟨_, rfl⟩
  rw [← hsd] at hs ⊢
  have hsD : s * D ≤ 6 * 64 := Nat.mul_le_mul hs.2 hD64
  have hsD1 : s * (D + 1) = s * D + s := Nat.mul_succ s D
  obtain ⟨L0, hL0⟩ : ∃ L, L = (s * D + 3) / 4 := ⟨_, rfl⟩
  obtain ⟨H0, hH0⟩ : ∃ H, H = (s * D + s - 1) / 4 := ⟨_, rfl⟩
  have e7 : (nI s * nI D + 4 - 1) / 4 = nI L0 := by
    rw [pk_mul, show (4 : Int32) = nI 4 from rfl, show (1 : Int32) = nI 1 from rfl, nI_add, pk_sub (by omega), pk_div (by omega) (by omega) (by omega), hL0]
    exact congrArg (fun x => nI (x / 4)) (by omega)
  have e8 : (nI s * (nI D + 1) - 1) / 4 = nI H0 := by
    rw [nI_1, pk_mul, hsD1, show (4 : Int32) = nI 4 from rfl, show (1 : Int32) = nI 1 from rfl, pk_sub (by omega), pk_div (by omega) (by omega) (by omega), hH0]
  intro y7 ey7 y8 ey8
  rw [e7] at ey7
  rw [e8] at ey8
  obtain ⟨lo, hlo⟩ : ∃ lo, lo = (if 1 < L0 then L0 else 1) := ⟨_, rfl⟩
  obtain ⟨hi, hhi⟩ : ∃ hi, hi = (if H0 < 16 then H0 else 16) := ⟨_, rfl⟩
  have ey7 : y7 = nI lo := by
    rw [ey7, hlo]
    exact if_nI_lt (a := 1) (by omega) (by omega) L0 1
  have ey8 : y8 = nI hi := by
    rw [ey8, hhi]
    exact if_nI_lt (b := 16) (by omega) (by omega) H0 16
  have hlo2 : L0 ≤ lo ∧ 1 ≤ lo ∧ (lo = L0 ∨ lo = 1) := by rw [hlo]; split <;> omega
  have hhi2 : hi ≤ H0 ∧ hi ≤ 16 ∧ (hi = H0 ∨ hi = 16) := by rw [hhi]; split <;> omega
  have e := ey
  subst ey
  subst ey7
  subst ey8
  have fin : rayF own pd lo o (hi + 1 - lo) = shwF own pd C 256 := by
    refine Nat.eq_of_testBit_eq fun i => ?_
    rw [ray_bit, shw_bit, Bool.eq_iff_iff, anyB_iff, anyB_iff]
    constructor
    · rintro ⟨j, hj, g⟩
      have hr : 16 - (lo + j) < 16 := by omega
      have x1 : (16 * (16 - (lo + j)) + o) / 16 = 16 - (lo + j) := by omega
      have x2 : (16 * (16 - (lo + j)) + o) % 16 = o := by omega
      have hdep : depN h (16 - (lo + j)) = D := (dep_iff hh1 hh2 hr).mpr (by
        rw [← hsd, hsD1]
        omega)
      refine ⟨16 * (16 - (lo + j)) + o, by omega, ?_⟩
      rw [(eC _ (by omega)).mpr (by rw [x1, x2, hdep]; exact ⟨rfl, by omega⟩), g]; rfl
    · rintro ⟨c, hc, g⟩
      rw [Bool.and_eq_true] at g
      obtain ⟨g1, g2⟩ := dep_of c hc g.1
      have g3 := (dep_iff hh1 hh2 (show c / 16 < 16 by omega)).mp g1
      rw [← hsd, hsD1] at g3
      refine ⟨16 - c / 16 - lo, by omega, ?_⟩
      rw [show 16 * (16 - (lo + (16 - c / 16 - lo))) + o = c by omega]
      exact g.2
  rw [← fin] at k1
  refine lp_cnt (hi + 1 - lo) (fun k (_ : Unit) => (lN o, nI hi, nI (rayF own pd lo o k), nI (lo + k))) (fun _ _ => True) ?_ ?_ 0 () (by omega) trivial
  · rintro K k - hk - hK
    have hK := hK () trivial
    show wp_X4_floorAnew_91 _ _ _ _ _ _ _ _ _ _ _ _ _ _ _ _
    unfold wp_X4_floorAnew_91
    dsimp only
    rw [lN_i, show (16 : Int32) = nI 16 from rfl, pk_sub (by omega), nI_1]
    refine brlt2 (by omega) (by omega) (fun z => absurd z (by omega)) (fun _ => ?_)
    refine k_colourBit hO hP ho hc hc2 c0 (by omega) ho16 ?_
    rw [fa_or]
    exact hK
  · rintro K - -
    show wp_X4_floorAnew_91 _ _ _ _ _ _ _ _ _ _ _ _ _ _ _ _
    unfold wp_X4_floorAnew_91
    dsimp only
    refine brlt2 (by omega) (by omega) (fun _ => k1) (fun z => absurd z (by omega))
end LIGHT
