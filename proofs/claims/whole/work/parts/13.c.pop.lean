/-! how many bits of 16: every word, by the kernel -/
def pcI (p1 : Int32) : Int32 :=
  let y1 := (p1 - (((p1).toUInt32 >>> ((1 : Int32).toUInt32 &&& Int32.toUInt32 31)).toInt32 &&& 1431655765))
  let y2 := ((y1 &&& 858993459) + (((y1).toUInt32 >>> ((2 : Int32).toUInt32 &&& Int32.toUInt32 31)).toInt32 &&& 858993459))
  let y3 := ((y2 + ((y2).toUInt32 >>> ((4 : Int32).toUInt32 &&& Int32.toUInt32 31)).toInt32) &&& 252645135)
  let y4 := (y3 + ((y3).toUInt32 >>> ((8 : Int32).toUInt32 &&& Int32.toUInt32 31)).toInt32)
  let y5 := (y4 + ((y4).toUInt32 >>> ((16 : Int32).toUInt32 &&& Int32.toUInt32 31)).toInt32)
  y5 &&& 63
theorem pc_w (p1 : Int32) (post : Int32 → Prop) (h : post (pcI p1)) : wp_J6_bitCount_0f7a4 p1 post := by
  unfold wp_J6_bitCount_0f7a4
  rintro _ rfl _ rfl _ rfl _ rfl _ rfl
  exact h
theorem pc_a : ∀ a, a < 64 → ∀ b, b < 256 → pcI (nI (256 * a + b)) = nI (fb_ct (fun i => Nat.testBit (256 * a + b) i) 16) := by decide +kernel
theorem pc_b : ∀ a, a < 64 → ∀ b, b < 256 → pcI (nI (256 * (64 + a) + b)) = nI (fb_ct (fun i => Nat.testBit (256 * (64 + a) + b) i) 16) := by decide +kernel
theorem pc_c : ∀ a, a < 64 → ∀ b, b < 256 → pcI (nI (256 * (128 + a) + b)) = nI (fb_ct (fun i => Nat.testBit (256 * (128 + a) + b) i) 16) := by decide +kernel
theorem pc_d : ∀ a, a < 64 → ∀ b, b < 256 → pcI (nI (256 * (192 + a) + b)) = nI (fb_ct (fun i => Nat.testBit (256 * (192 + a) + b) i) 16) := by decide +kernel
theorem pc_16 {x : Nat} (h : x < 65536) : pcI (nI x) = nI (fb_ct (fun i => Nat.testBit x i) 16) := by
  have e : x = 256 * (x / 256) + x % 256 := by omega
  rcases Nat.lt_or_ge (x / 256) 64 with g | g
  · rw [e]; exact pc_a _ g _ (by omega)
  rcases Nat.lt_or_ge (x / 256) 128 with g2 | g2
  · have := pc_b (x / 256 - 64) (by omega) (x % 256) (by omega)
    rw [show 64 + (x / 256 - 64) = x / 256 by omega, ← e] at this; exact this
  rcases Nat.lt_or_ge (x / 256) 192 with g3 | g3
  · have := pc_c (x / 256 - 128) (by omega) (x % 256) (by omega)
    rw [show 128 + (x / 256 - 128) = x / 256 by omega, ← e] at this; exact this
  · have := pc_d (x / 256 - 192) (by omega) (x % 256) (by omega)
    rw [show 192 + (x / 256 - 192) = x / 256 by omega, ← e] at this; exact this
/-- a word of 16 bits -/
theorem pc_bt {x : Int32} (h : ∀ i, 16 ≤ i → i < 32 → bt x i = false) : pcI x = nI (fb_ct (bt x) 16) := by
  obtain ⟨v, hv⟩ : ∃ v, v = x.toBitVec.toNat := ⟨_, rfl⟩
  have hb : ∀ i, bt x i = v.testBit i := fun i => by rw [hv]; rfl
  have hlt : v < 65536 := by
    refine Nat.lt_pow_two_of_testBit (n := 16) v fun i hi => ?_
    rw [← hb i]
    rcases Nat.lt_or_ge i 32 with g | g
    · exact h i hi g
    · exact b_big g
  have e : x = nI v := by
    refine b_ext fun i _ => ?_
    rw [hb i]
    unfold bt nI
    rw [Int32.toBitVec_ofNat, BitVec.getLsbD_ofNat]
    rename_i hi
    rw [decide_eq_true hi, Bool.true_and]
  rw [e, pc_16 hlt]
  congr 1
  refine fb_ct_cong fun i _ => ?_
  rw [← e, hb i]
