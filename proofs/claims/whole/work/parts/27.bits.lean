/-! bits of longs -/
theorem bx_c : ∀ k, k < 64 → ((nI k).toInt64 &&& 63) = Int64.ofNat k := by decide +kernel
theorem bx_cu : ∀ k, k < 64 → ((nI k).toInt64.toUInt64 &&& Int64.toUInt64 63) = UInt64.ofNat k := by decide +kernel
theorem bx_sm : ∀ k, k < 64 → ((Int64.ofNat k).toBitVec.smod 64).toNat = k := by decide +kernel
theorem bx_inj {a b : Int64} (h : a.toBitVec = b.toBitVec) : a = b := by
  cases a; cases b; simp_all [Int64.toBitVec]
  rename_i x y
  cases x; cases y; simp_all
theorem bx_inj32 {a b : Int32} (h : a.toBitVec = b.toBitVec) : a = b := by
  cases a; cases b; simp_all [Int32.toBitVec]
  rename_i x y
  cases x; cases y; simp_all
theorem bx_ext {a b : Int64} (h : ∀ i, i < 64 → wd_bit a i = wd_bit b i) : a = b := bx_inj (BitVec.eq_of_getLsbD_eq fun i hi => h i hi)
theorem bx_one {j : Nat} (hj : j < 64) : ((1 : Int64) <<< ((nI j).toInt64 &&& 63)).toBitVec = BitVec.twoPow 64 j := by
  rw [bx_c j hj]
  revert j
  decide +kernel
theorem bx_bit1 {j i : Nat} (hj : j < 64) : wd_bit ((1 : Int64) <<< ((nI j).toInt64 &&& 63)) i = decide (i = j) := by
  unfold wd_bit
  rw [bx_one hj, BitVec.getLsbD_twoPow]
  by_cases h : i = j
  · subst h; simp [hj]
  · simp [h]; omega
theorem bx_m1 {i : Nat} (hi : i < 64) : wd_bit (Int64.ofNat 18446744073709551615) i = true := by
  revert i
  decide +kernel
theorem bx_or (a b : Int64) (i : Nat) : wd_bit (a ||| b) i = (wd_bit a i || wd_bit b i) := by
  unfold wd_bit; rw [Int64.toBitVec_or, BitVec.getLsbD_or]
theorem bx_and (a b : Int64) (i : Nat) : wd_bit (a &&& b) i = (wd_bit a i && wd_bit b i) := by
  unfold wd_bit; rw [Int64.toBitVec_and, BitVec.getLsbD_and]
theorem bx_xor (a b : Int64) (i : Nat) : wd_bit (a ^^^ b) i = (wd_bit a i ^^ wd_bit b i) := by
  unfold wd_bit; rw [Int64.toBitVec_xor, BitVec.getLsbD_xor]
theorem bx_get {F : Int64} {j : Nat} (hj : j < 64) : ((((F).toUInt64 >>> ((nI j).toInt64.toUInt64 &&& Int64.toUInt64 63)).toInt64).toInt32) &&& (1 : Int32) = if wd_bit F j then 1 else 0 := by
  rw [bx_cu j hj]
  apply bx_inj32
  apply BitVec.eq_of_getLsbD_eq
  intro i hi
  have h1 : (((F.toUInt64 >>> UInt64.ofNat j).toInt64).toInt32).toBitVec = (F.toBitVec >>> j).setWidth 32 := by
    have h2 : ((F.toUInt64 >>> UInt64.ofNat j).toInt64).toBitVec = F.toBitVec >>> j := by
      show (F.toUInt64 >>> UInt64.ofNat j).toBitVec = _
      rw [UInt64.toBitVec_shiftRight]
      show F.toBitVec >>> ((UInt64.ofNat j).toBitVec % 64#64) = F.toBitVec >>> j
      have h3 : ((UInt64.ofNat j).toBitVec % 64#64).toNat = j := by
        revert j
        decide +kernel
      rw [BitVec.ushiftRight_eq', h3]
    show (((F.toUInt64 >>> UInt64.ofNat j).toInt64).toBitVec).signExtend 32 = _
    rw [h2, BitVec.signExtend_eq_setWidth_of_le _ (by decide)]
  rw [Int32.toBitVec_and, BitVec.getLsbD_and, h1, BitVec.getLsbD_setWidth, BitVec.getLsbD_ushiftRight]
  unfold wd_bit
  by_cases h0 : i = 0
  · subst h0
    cases hb : F.toBitVec.getLsbD j <;> simp [hb]
  · have h9 : (1 : Int32).toBitVec.getLsbD i = false := by
      have : ∀ i, i < 32 → ¬ i = 0 → (1 : Int32).toBitVec.getLsbD i = false := by decide +kernel
      exact this i hi h0
    rw [h9, Bool.and_false]
    cases hb : F.toBitVec.getLsbD j
    · simp
    · simp only [if_true, h9]
