/-! the loop's numbers -/
theorem lw_n5 : ∀ L, L < 2561 → ∀ t, t < 5 → t ≤ L → nI L - 5 < nI (L - t) := by decide +kernel
theorem lw_num {L i : Nat} (hL : L ≤ 2560) (hi : i ≤ L) (h : ¬ nI L - 5 < nI i) : i + 5 ≤ L := by
  rcases Nat.lt_or_ge L (i + 5) with q | q
  · have := lw_n5 L (by omega) (L - i) (by omega) (by omega)
    rw [show L - (L - i) = i by omega] at this
    exact absurd this h
  · exact q
theorem lw_31 (y : Int32) : ∃ k, k < 32 ∧ y &&& 31 = nI k := by
  refine ⟨(y.toBitVec &&& 31#32).toNat, ?_, ?_⟩
  · rw [BitVec.toNat_and]
    exact Nat.lt_of_le_of_lt Nat.and_le_right (by decide)
  · have e : (y &&& 31).toBitVec = y.toBitVec &&& 31#32 := rfl
    have e2 : (nI (y.toBitVec &&& 31#32).toNat).toBitVec = BitVec.ofNat 32 (y.toBitVec &&& 31#32).toNat := rfl
    rw [BitVec.ofNat_toNat, BitVec.setWidth_eq] at e2
    exact Int32.toBitVec_inj.mp (e.trans e2.symm)
