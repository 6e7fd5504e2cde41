/-! longs by their numbers (begun with the family wb_), and how many bits: the end -/
theorem wb_tb (n : Nat) : (lN n).toBitVec = BitVec.ofNat 64 n := rfl
theorem wb_inj {a b : Int64} (h : a.toBitVec = b.toBitVec) : a = b := Int64.toBitVec_inj.mp h
theorem wb_tn {n : Nat} (h : n < 2 ^ 64) : (lN n).toBitVec.toNat = n := by rw [wb_tb, BitVec.toNat_ofNat, Nat.mod_eq_of_lt h]
theorem wb_of (x : Int64) : ∃ n, n < 2 ^ 64 ∧ x = lN n := ⟨x.toBitVec.toNat, x.toBitVec.isLt, wb_inj (by rw [wb_tb]; simp)⟩
theorem wb_of32 (x : Int32) : ∃ n, n < 2 ^ 32 ∧ x = nI n := ⟨x.toBitVec.toNat, x.toBitVec.isLt, Int32.toBitVec_inj.mp (by show _ = BitVec.ofNat 32 _; simp)⟩
theorem wb_c : ∀ k, k < 64 → ((nI k).toInt64 &&& 63) = lN k := by decide +kernel
theorem wb_cu : ∀ k, k < 64 → ((nI k).toInt64.toUInt64 &&& Int64.toUInt64 63) = UInt64.ofNat k := by decide +kernel
theorem wb_sm : ∀ k, k < 64 → (BitVec.ofNat 64 k).smod 64 = BitVec.ofNat 64 k := by decide +kernel
theorem wb_pw {a b : Nat} (h : a ≤ b) : 2 ^ b = 2 ^ a * 2 ^ (b - a) := by rw [← Nat.pow_add]; congr 1; omega
theorem wb_lt2 {a b : Nat} (h : a < b) : 2 ^ a < 2 ^ b := Nat.pow_lt_pow_right (by decide) h
theorem wb_mod (n : Nat) : lN n = lN (n % 2 ^ 64) := wb_inj (by rw [wb_tb, wb_tb]; apply BitVec.eq_of_toNat_eq; rw [BitVec.toNat_ofNat, BitVec.toNat_ofNat, Nat.mod_mod])
theorem wb_shr {n k : Nat} (hn : n < 2 ^ 64) (hk : k < 64) : ((lN n).toUInt64 >>> ((nI k).toInt64.toUInt64 &&& Int64.toUInt64 63)).toInt64 = lN (n / 2 ^ k) := by
  rw [wb_cu k hk]
  apply wb_inj
  apply BitVec.eq_of_toNat_eq
  show ((lN n).toUInt64 >>> UInt64.ofNat k).toNat = (BitVec.ofNat 64 _).toNat
  have h1 : (UInt64.ofNat k).toNat = k := by
    show (BitVec.ofNat 64 k).toNat = k
    rw [BitVec.toNat_ofNat, Nat.mod_eq_of_lt (by omega)]
  have h2 : (lN n).toUInt64.toNat = n := wb_tn hn
  rw [UInt64.toNat_shiftRight, h1, h2, Nat.mod_eq_of_lt hk, Nat.shiftRight_eq_div_pow, BitVec.toNat_ofNat, Nat.mod_eq_of_lt (Nat.lt_of_le_of_lt (Nat.div_le_self _ _) hn)]
theorem wb_shl (n : Nat) {k : Nat} (hk : k < 64) : lN n <<< ((nI k).toInt64 &&& 63) = lN (n * 2 ^ k) := by
  rw [wb_c k hk]
  apply wb_inj
  rw [Int64.toBitVec_shiftLeft, wb_tb, wb_tb, wb_tb, wb_sm k hk]
  apply BitVec.eq_of_toNat_eq
  rw [BitVec.shiftLeft_eq', BitVec.toNat_shiftLeft, BitVec.toNat_ofNat, BitVec.toNat_ofNat, BitVec.toNat_ofNat, Nat.mod_eq_of_lt (show k < 2 ^ 64 by omega), Nat.shiftLeft_eq, Nat.mul_mod, Nat.mod_mod, ← Nat.mul_mod]
theorem wb_and {a b : Nat} (ha : a < 2 ^ 64) (hb : b < 2 ^ 64) : lN a &&& lN b = lN (a &&& b) := by
  apply wb_inj
  rw [Int64.toBitVec_and, wb_tb, wb_tb, wb_tb]
  apply BitVec.eq_of_toNat_eq
  rw [BitVec.toNat_and, BitVec.toNat_ofNat, BitVec.toNat_ofNat, BitVec.toNat_ofNat, Nat.mod_eq_of_lt ha, Nat.mod_eq_of_lt hb, Nat.mod_eq_of_lt (Nat.and_lt_two_pow _ hb)]
theorem wb_or {a b : Nat} (ha : a < 2 ^ 64) (hb : b < 2 ^ 64) : lN a ||| lN b = lN (a ||| b) := by
  apply wb_inj
  rw [Int64.toBitVec_or, wb_tb, wb_tb, wb_tb]
  apply BitVec.eq_of_toNat_eq
  rw [BitVec.toNat_or, BitVec.toNat_ofNat, BitVec.toNat_ofNat, BitVec.toNat_ofNat, Nat.mod_eq_of_lt ha, Nat.mod_eq_of_lt hb, Nat.mod_eq_of_lt (Nat.or_lt_two_pow ha hb)]
theorem wb_mask {n k : Nat} (hn : n < 2 ^ 64) (hk : k < 64) : lN n &&& lN (2 ^ k - 1) = lN (n % 2 ^ k) := by
  rw [wb_and hn (by have := wb_lt2 hk; omega), Nat.and_two_pow_sub_one_eq_mod]
theorem wb_a1 {n : Nat} (hn : n < 2 ^ 64) : lN n &&& 1 = lN (n % 2) := wb_mask (k := 1) hn (by decide)
theorem wb_bit {n k : Nat} (hn : n < 2 ^ 64) (hk : k < 64) : ((lN n).toUInt64 >>> ((nI k).toInt64.toUInt64 &&& Int64.toUInt64 63)).toInt64 &&& 1 = lN (n / 2 ^ k % 2) := by
  rw [wb_shr hn hk, wb_a1 (Nat.lt_of_le_of_lt (Nat.div_le_self _ _) hn)]
theorem wb_xor {q k : Nat} (hk : k < 63) (h : 2 ^ k ≤ q) (h2 : q < 2 ^ (k + 1)) : lN q ^^^ lN (2 ^ k) = lN (q - 2 ^ k) := by
  obtain ⟨r, rfl⟩ : ∃ r, q = 2 ^ k + r := ⟨q - 2 ^ k, by omega⟩
  have hr : r < 2 ^ k := by rw [Nat.pow_succ] at h2; omega
  have hx : (2 ^ k + r) ^^^ 2 ^ k = r := by
    apply Nat.eq_of_testBit_eq
    intro i
    rw [Nat.testBit_xor, Nat.testBit_two_pow]
    rcases Nat.lt_trichotomy i k with h | h | h
    · rw [Nat.testBit_two_pow_add_gt h]
      simp [show ¬ k = i by omega]
    · subst h
      rw [Nat.testBit_two_pow_add_eq]
      simp
    · have a1 : 2 ^ (k + 1) ≤ 2 ^ i := Nat.pow_le_pow_right (by decide) h
      rw [Nat.testBit_lt_two_pow (show 2 ^ k + r < 2 ^ i by omega), Nat.testBit_lt_two_pow (show r < 2 ^ i by omega)]
      simp [show ¬ k = i by omega]
  have b1 := wb_lt2 (show k + 1 < 64 by omega)
  have b2 := wb_lt2 (show k < 64 by omega)
  apply wb_inj
  rw [Int64.toBitVec_xor, wb_tb, wb_tb, wb_tb]
  apply BitVec.eq_of_toNat_eq
  rw [BitVec.toNat_xor, BitVec.toNat_ofNat, BitVec.toNat_ofNat, BitVec.toNat_ofNat, Nat.mod_eq_of_lt (by omega : 2 ^ k + r < 2 ^ 64), Nat.mod_eq_of_lt b2, hx, Nat.add_sub_cancel_left, Nat.mod_eq_of_lt (by omega)]
/-! how many bits: the end -/
def by8 (x : Nat) : Nat := c4 (x % 4) + c4 (x / 4 % 4) + (c4 (x / 16 % 4) + c4 (x / 64 % 4))
def pB : Nat → Nat → Nat
  | 0, _ => 0
  | k + 1, x => by8 x + pB k (x / 256)
theorem by8_le (x : Nat) : by8 x ≤ 8 := by
  have a1 := c4_le x
  have a2 := c4_le (x / 4)
  have a3 := c4_le (x / 16)
  have a4 := c4_le (x / 64)
  unfold by8
  omega
theorem by8_k : ∀ y, y < 256 → by8 y = fb_ct (fun i => Nat.testBit y i) 8 := by decide +kernel
theorem by8_ct (x : Nat) : by8 x = fb_ct (fun i => Nat.testBit x i) 8 := by
  have e1 : by8 x = by8 (x % 256) := by
    unfold by8
    rw [show x % 256 % 4 = x % 4 by omega, show x % 256 / 4 % 4 = x / 4 % 4 by omega, show x % 256 / 16 % 4 = x / 16 % 4 by omega, show x % 256 / 64 % 4 = x / 64 % 4 by omega]
  rw [e1, by8_k _ (by omega)]
  exact fb_ct_cong fun i hi => by
    rw [show x % 256 = x % 2 ^ 8 from rfl, Nat.testBit_mod_two_pow, decide_eq_true hi, Bool.true_and]
theorem pB_ct : ∀ (k x : Nat), fb_ct (fun i => Nat.testBit x i) (8 * k) = pB k x
  | 0, _ => rfl
  | k + 1, x => by
    rw [show 8 * (k + 1) = 8 + 8 * k by omega, fb_ct_split, ← by8_ct, pB, ← pB_ct k (x / 256)]
    congr 1
    exact fb_ct_cong fun i _ => by
      rw [show x / 256 = x / 2 ^ 8 from rfl, Nat.testBit_div_two_pow, Nat.add_comm]
theorem pD2_le {k x : Nat} (h : x < 4 ^ k) : pD2 k x ≤ x := by
  have := step1 k x h
  omega
theorem pD4_lt : ∀ (k x : Nat), pD4 k x < 16 ^ k
  | 0, _ => by show 0 < 1; decide
  | k + 1, x => by
    have h := pD4_lt k (x / 16)
    have a := c4_le x
    have b := c4_le (x / 4)
    rw [pD4, Nat.pow_succ]
    omega
theorem pD8_s (k x : Nat) : pD8 (k + 1) x = 256 * pD8 k (x / 256) + by8 x := rfl
theorem fold4 {z w1 w2 w3 b0 b1 b2 b3 : Nat} (h0 : b0 ≤ 8) (h1 : b1 ≤ 8) (h2 : b2 ≤ 8) (h3 : b3 ≤ 8) (e0 : z = 256 * w1 + b0) (e1 : w1 = 256 * w2 + b1) (e2 : w2 = 256 * w3 + b2) (e3 : w3 = b3) : z < 2 ^ 32 ∧ z + z / 256 < 2 ^ 32 ∧ (z + z / 256 + (z + z / 256) / 65536) % 64 = b0 + (b1 + (b2 + b3)) := by
  have g0 : z / 256 = w1 := by omega
  rw [g0]
  have g1 : (z + w1) / 65536 = w2 + w3 := by omega
  rw [g1]
  omega
theorem up8 {w u b K : Nat} (h : w = 256 * u + b) (hb : b ≤ 8) (hu : u ≤ K) : w ≤ 256 * K + 8 := by omega
theorem pair8 {z w1 w2 w3 b0 b1 b2 : Nat} (e0 : z = 256 * w1 + b0) (e1 : w1 = 256 * w2 + b1) (e2 : w2 = 256 * w3 + b2) : z + w1 = 65536 * (w2 + w3) + (256 * (b1 + b2) + (b0 + b1)) := by omega
theorem sum8 {z w1 w2 b0 b1 : Nat} (e0 : z = 256 * w1 + b0) (e1 : w1 = 256 * w2 + b1) : z + w1 = 256 * (w1 + w2) + (b0 + b1) := by omega
theorem div8 {z w b : Nat} (e0 : z = 256 * w + b) (h : b ≤ 8) : z / 256 = w := by omega
theorem div16 {T P s : Nat} (h : T = 65536 * P + s) (hs : s ≤ 4112) : T / 65536 = P := by omega
theorem div32 {T P U V s0 s1 s2 : Nat} (hA : T = 65536 * P + s0) (hB : P = 65536 * U + s1) (hC : U = 65536 * V + s2) (h0 : s0 ≤ 4112) (h1 : s1 ≤ 4112) (h2 : s2 ≤ 4112) : (T + P) / 4294967296 = U + V := by
  have e : T + P = 4294967296 * (U + V) + (65536 * (s1 + s2) + (s0 + s1)) := by omega
  rw [e]
  clear e hA hB hC
  generalize U + V = X
  omega
theorem mod128 {T X s : Nat} (h : T = 256 * X + s) (hs : s ≤ 64) : T % 128 = s := by omega
theorem sm8 {b1 b2 b0 : Nat} (h0 : b0 ≤ 8) (h1 : b1 ≤ 8) (h2 : b2 ≤ 8) : 256 * (b1 + b2) + (b0 + b1) ≤ 4112 := by omega
theorem add4 {A B C D a b c d X Y Z V : Nat} (h1 : A = 256 * X + a) (h2 : B = 256 * Y + b) (h3 : C = 256 * Z + c) (h4 : D = 256 * V + d) : A + B + (C + D) = 256 * (X + Y + (Z + V)) + (a + b + (c + d)) := by omega
theorem fold8 {z w1 w2 w3 w4 w5 w6 w7 b0 b1 b2 b3 b4 b5 b6 b7 : Nat} (h0 : b0 ≤ 8) (h1 : b1 ≤ 8) (h2 : b2 ≤ 8) (h3 : b3 ≤ 8) (h4 : b4 ≤ 8) (h5 : b5 ≤ 8) (h6 : b6 ≤ 8) (h7 : b7 ≤ 8) (e0 : z = 256 * w1 + b0) (e1 : w1 = 256 * w2 + b1) (e2 : w2 = 256 * w3 + b2) (e3 : w3 = 256 * w4 + b3) (e4 : w4 = 256 * w5 + b4) (e5 : w5 = 256 * w6 + b5) (e6 : w6 = 256 * w7 + b6) (e7 : w7 = 256 * 0 + b7) :
    z < 18446744073709551616 ∧ z + z / 256 < 18446744073709551616 ∧ z + z / 256 + (z + z / 256) / 65536 < 18446744073709551616 ∧ (z + z / 256 + (z + z / 256) / 65536 + (z + z / 256 + (z + z / 256) / 65536) / 4294967296) % 128 = b0 + b1 + (b2 + b3) + (b4 + b5 + (b6 + b7)) := by
  have k7 : w7 ≤ 256 * 0 + 8 := up8 e7 h7 (Nat.le_refl 0)
  have k6 := up8 e6 h6 k7
  have k5 := up8 e5 h5 k6
  have k4 := up8 e4 h4 k5
  have k3 := up8 e3 h3 k4
  have k2 := up8 e2 h2 k3
  have k1 := up8 e1 h1 k2
  have k0 := up8 e0 h0 k1
  have hA := pair8 e0 e1 e2
  have hB := pair8 e2 e3 e4
  have hC := pair8 e4 e5 e6
  rw [div8 e0 h0, div16 hA (sm8 h0 h1 h2), div32 hA hB hC (sm8 h0 h1 h2) (sm8 h2 h3 h4) (sm8 h4 h5 h6)]
  have hT := add4 (sum8 e0 e1) (sum8 e2 e3) (sum8 e4 e5) (sum8 e6 e7)
  clear hA hB hC e0 e1 e2 e3 e4 e5 e6 e7
  refine ⟨?_, ?_, ?_, ?_⟩
  · exact Nat.lt_of_le_of_lt k0 (Nat.le_of_ble_eq_true rfl)
  · exact Nat.lt_of_le_of_lt (Nat.add_le_add k0 k1) (Nat.le_of_ble_eq_true rfl)
  · exact Nat.lt_of_le_of_lt (Nat.add_le_add (Nat.add_le_add k0 k1) (Nat.add_le_add k2 k3)) (Nat.le_of_ble_eq_true rfl)
  · refine mod128 hT ?_
    clear hT k0 k1 k2 k3 k4 k5 k6 k7
    omega
theorem bt_nI {v i : Nat} (hi : i < 32) : bt (nI v) i = Nat.testBit v i := by
  show (BitVec.ofNat 32 v).getLsbD i = _
  rw [BitVec.getLsbD_ofNat, decide_eq_true hi, Bool.true_and]
def btL (x : Int64) (i : Nat) : Bool := x.toBitVec.getLsbD i
theorem btL_lN {v i : Nat} (hi : i < 64) : btL (lN v) i = Nat.testBit v i := by
  show (BitVec.ofNat 64 v).getLsbD i = _
  rw [BitVec.getLsbD_ofNat, decide_eq_true hi, Bool.true_and]
theorem pc_w {x : Int32} {post : Int32 → Prop} (h : post (nI (fb_ct (bt x) 32))) : wp_J6_bitCount_0f7a4 x post := by
  obtain ⟨v, hv, rfl⟩ := wb_of32 x
  have ec : fb_ct (bt (nI v)) 32 = pB 4 v := by
    rw [← pB_ct 4 v]
    exact fb_ct_cong fun i hi => bt_nI hi
  rw [ec] at h
  have u : ∀ n k : Nat, n < 2 ^ 32 → k < 32 → ((nI n).toUInt32 >>> ((nI k).toUInt32 &&& Int32.toUInt32 31)).toInt32 = nI (n / 2 ^ k) := fun n k hn hk => pk_ushrN hn (nI k) k (s_u k hk)
  have m4 : (1431655765 : Int32) = nI (ma4 16) := by decide +kernel
  have m16 : (858993459 : Int32) = nI (ma16 8) := by decide +kernel
  have m256 : (252645135 : Int32) = nI (ma256 4) := by decide +kernel
  have h4 : v < 4 ^ 16 := by rw [show (4 : Nat) ^ 16 = 2 ^ 32 by decide]; exact hv
  obtain ⟨s1, s1'⟩ := step1 16 v h4
  have l2 : pD2 16 v < 2 ^ 32 := Nat.lt_of_le_of_lt (pD2_le h4) hv
  have l4 : pD4 8 v < 2 ^ 32 := by have := pD4_lt 8 v; rw [show (16 : Nat) ^ 8 = 2 ^ 32 by decide] at this; exact this
  obtain ⟨f1, f2, f3⟩ := fold4 (z := pD8 4 v) (by8_le v) (by8_le (v / 256)) (by8_le (v / 256 / 256)) (by8_le (v / 256 / 256 / 256)) (pD8_s 3 v) (pD8_s 2 (v / 256)) (pD8_s 1 (v / 256 / 256)) (by rw [pD8_s 0]; show 256 * 0 + _ = _; omega)
  unfold wp_J6_bitCount_0f7a4
  intro y1 e1
  rw [show (1 : Int32) = nI 1 from rfl, u v 1 hv (by decide), m4, fa_and, pk_sub s1', s1] at e1
  intro y2 e2
  rw [e1, show (2 : Int32) = nI 2 from rfl, u _ 2 l2 (by decide), m16, fa_and, fa_and, nI_add, show (2 : Nat) ^ 2 = 4 from rfl, step2 8 v] at e2
  intro y3 e3
  rw [e2, show (4 : Int32) = nI 4 from rfl, u _ 4 l4 (by decide), m256, nI_add, fa_and, show (2 : Nat) ^ 4 = 16 from rfl, step3 4 v] at e3
  intro y4 e4
  rw [e3, show (8 : Int32) = nI 8 from rfl, u _ 8 f1 (by decide), nI_add, show (2 : Nat) ^ 8 = 256 from rfl] at e4
  intro y5 e5
  rw [e4, show (16 : Int32) = nI 16 from rfl, u _ 16 f2 (by decide), nI_add, show (2 : Nat) ^ 16 = 65536 from rfl] at e5
  have e6 : y5 &&& 63 = nI (pB 4 v) := by
    rw [e5, show (63 : Int32) = nI (2 ^ 6 - 1) from rfl, fa_mask, show (2 : Nat) ^ 6 = 64 from rfl, f3]
    rfl
  rw [e6]; exact h
theorem pcl_w {x : Int64} {post : Int32 → Prop} (h : post (nI (fb_ct (btL x) 64))) : wp_J13_bitCount_95d88 x post := by
  obtain ⟨v, hv, rfl⟩ := wb_of x
  have ec : fb_ct (btL (lN v)) 64 = pB 8 v := by
    rw [← pB_ct 8 v]
    exact fb_ct_cong fun i hi => btL_lN hi
  rw [ec] at h
  have m4 : (6148914691236517205 : Int64) = lN (ma4 32) := by decide +kernel
  have m16 : (3689348814741910323 : Int64) = lN (ma16 16) := by decide +kernel
  have m256 : (1085102592571150095 : Int64) = lN (ma256 8) := by decide +kernel
  have h4 : v < 4 ^ 32 := by rw [show (4 : Nat) ^ 32 = 2 ^ 64 by decide]; exact hv
  obtain ⟨s1, s1'⟩ := step1 32 v h4
  have l2 : pD2 32 v < 2 ^ 64 := Nat.lt_of_le_of_lt (pD2_le h4) hv
  have l4 : pD4 16 v < 2 ^ 64 := by have := pD4_lt 16 v; rw [show (16 : Nat) ^ 16 = 2 ^ 64 by decide] at this; exact this
  obtain ⟨f1, f2, f3, f4⟩ := fold8 (z := pD8 8 v) (by8_le v) (by8_le (v / 256)) (by8_le (v / 256 / 256)) (by8_le (v / 256 / 256 / 256)) (by8_le (v / 256 / 256 / 256 / 256)) (by8_le (v / 256 / 256 / 256 / 256 / 256)) (by8_le (v / 256 / 256 / 256 / 256 / 256 / 256)) (by8_le (v / 256 / 256 / 256 / 256 / 256 / 256 / 256)) (pD8_s 7 v) (pD8_s 6 (v / 256)) (pD8_s 5 (v / 256 / 256)) (pD8_s 4 (v / 256 / 256 / 256)) (pD8_s 3 (v / 256 / 256 / 256 / 256)) (pD8_s 2 (v / 256 / 256 / 256 / 256 / 256)) (pD8_s 1 (v / 256 / 256 / 256 / 256 / 256 / 256)) (pD8_s 0 (v / 256 / 256 / 256 / 256 / 256 / 256 / 256))
  unfold wp_J13_bitCount_95d88
  intro y1 e1
  rw [show (1 : Int32) = nI 1 from rfl, wb_shr hv (by decide), m4, fb_andL, lN_sub s1', s1] at e1
  intro y2 e2
  rw [e1, show (2 : Int32) = nI 2 from rfl, wb_shr l2 (by decide), m16, fb_andL, fb_andL, lN_add, show (2 : Nat) ^ 2 = 4 from rfl, step2 16 v] at e2
  intro y3 e3
  rw [e2, show (4 : Int32) = nI 4 from rfl, wb_shr l4 (by decide), m256, lN_add, fb_andL, show (2 : Nat) ^ 4 = 16 from rfl, step3 8 v] at e3
  intro y4 e4
  rw [e3, show (8 : Int32) = nI 8 from rfl, wb_shr f1 (by decide), lN_add, show (2 : Nat) ^ 8 = 256 from rfl] at e4
  intro y5 e5
  rw [e4, show (16 : Int32) = nI 16 from rfl, wb_shr f2 (by decide), lN_add, show (2 : Nat) ^ 16 = 65536 from rfl] at e5
  intro y6 e6
  rw [e5, show (32 : Int32) = nI 32 from rfl, wb_shr f3 (by decide), lN_add, show (2 : Nat) ^ 32 = 4294967296 from rfl] at e6
  have e7 : (y6 : Int64).toInt32 &&& 127 = nI (pB 8 v) := by
    rw [e6, lN_i, show (127 : Int32) = nI (2 ^ 7 - 1) from rfl, fa_mask, show (2 : Nat) ^ 7 = 128 from rfl, f4]
    show nI _ = nI (by8 v + (by8 (v / 256) + (by8 (v / 256 / 256) + (by8 (v / 256 / 256 / 256) + (by8 (v / 256 / 256 / 256 / 256) + (by8 (v / 256 / 256 / 256 / 256 / 256) + (by8 (v / 256 / 256 / 256 / 256 / 256 / 256) + (by8 (v / 256 / 256 / 256 / 256 / 256 / 256 / 256) + 0))))))))
    simp only [Nat.add_assoc, Nat.add_zero]
  rw [e7]; exact h
theorem pc16 {x : Int32} (h : ∀ i, 16 ≤ i → i < 32 → bt x i = false) : fb_ct (bt x) 32 = fb_ct (bt x) 16 := by
  have e : fb_ct (bt x) 32 = fb_ct (bt x) 16 + fb_ct (fun k => bt x (16 + k)) 16 := fb_ct_split (bt x) 16 16
  have z : fb_ct (fun k => bt x (16 + k)) 16 = 0 := fb_ct_zero.mpr fun k hk => h _ (by omega) (by omega)
  rw [e, z, Nat.add_zero]
/-! longs as sets -/
theorem l_ext {x y : Int64} (h : ∀ i, i < 64 → btL x i = btL y i) : x = y := Int64.toBitVec_inj.mp (BitVec.eq_of_getLsbD_eq (fun i hi => h i hi))
theorem l_or (x y : Int64) (i : Nat) : btL (x ||| y) i = (btL x i || btL y i) := by unfold btL; rw [Int64.toBitVec_or, BitVec.getLsbD_or]
theorem l_and (x y : Int64) (i : Nat) : btL (x &&& y) i = (btL x i && btL y i) := by unfold btL; rw [Int64.toBitVec_and, BitVec.getLsbD_and]
theorem l_xor (x y : Int64) (i : Nat) : btL (x ^^^ y) i = (btL x i ^^ btL y i) := by unfold btL; rw [Int64.toBitVec_xor, BitVec.getLsbD_xor]
theorem l_m1 : ∀ i, i < 64 → btL (-1) i = true := by decide +kernel
theorem l_0 (i : Nat) : btL 0 i = false := BitVec.getLsbD_zero
theorem l_not (x : Int64) {i : Nat} (hi : i < 64) : btL (x ^^^ (-1)) i = !btL x i := by rw [l_xor, l_m1 i hi]; cases btL x i <;> rfl
theorem l_one : ∀ q, q < 64 → ∀ i, i < 64 → btL ((1 : Int64) <<< ((nI q).toInt64 &&& 63)) i = decide (i = q) := by
  intro q hq i hi
  have e : (1 : Int64) <<< ((nI q).toInt64 &&& 63) = lN (2 ^ q) := by
    have := wb_shl 1 hq
    rw [Nat.one_mul] at this
    exact this
  rw [e, btL_lN hi, Nat.testBit_two_pow]
  exact decide_eq_decide.mpr ⟨fun h => h.symm, fun h => h.symm⟩
theorem l_bit (x : Int64) {k : Nat} (hk : k < 64) : (((x.toUInt64 >>> ((nI k).toInt64.toUInt64 &&& Int64.toUInt64 63)).toInt64 &&& 1) = 0) = (btL x k = false) := by
  obtain ⟨v, hv, rfl⟩ := wb_of x
  rw [wb_bit hv hk, btL_lN hk, Nat.testBit_eq_decide_div_mod_eq, show (0 : Int64) = lN 0 from rfl, pk_lEQ (by omega) (by omega), decide_eq_false_iff_not]
  exact propext (by omega)
theorem l_eq0 {x : Int64} : x = 0 ↔ ∀ i, i < 64 → btL x i = false := by
  constructor
  · intro e i _; rw [e]; exact l_0 i
  · intro h; exact l_ext (fun i hi => by rw [h i hi, l_0])
