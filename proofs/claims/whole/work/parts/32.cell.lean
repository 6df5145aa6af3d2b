/-! cellOf; the loop of world -/
theorem cz_1 : ∀ k, k < 5 → 1 ≤ k → ¬ nI k * nI k = 0 ∧ ¬ nI k = 0 := by decide +kernel
theorem cz_2a : ∀ k, k < 5 → ∀ j, j < 40 → 1 ≤ k → (2 : Int32) * nI k ≤ nI j → ((((32 : Int32) + ((16 : Int32) * ((nI j - ((2 : Int32) * nI k)) / (nI k * nI k)))) + ((4 : Int32) * (((nI j - ((2 : Int32) * nI k)) / nI k) - ((nI j - ((2 : Int32) * nI k)) / nI k) / nI k * nI k))) + ((nI j - ((2 : Int32) * nI k)) - (nI j - ((2 : Int32) * nI k)) / nI k * nI k)) = nI (wd_c k j) := by decide +kernel
theorem cz_2b : ∀ k, k < 5 → ∀ j, j < 40 → 1 ≤ k → ¬ (2 : Int32) * nI k ≤ nI j → (((24 : Int32) + ((4 : Int32) * (nI j / nI k))) + (nI j - nI j / nI k * nI k)) = nI (wd_c k j) := by decide +kernel
theorem m_cellOf {d k j : Nat} {st draft kept isKept tape : Nat → Int32} {taped pos begun sort fault wrongAt : Int32} {rows places aheads : Nat → Int32} {readings isFound : Int32} {now at_ place rank : Nat → Int32} {nounBits verbBits inner table next : Nat → Int64} {powers : Nat → Int32} {things : Int32} {holding patterns : Nat → Int64} {seeded : Int32} {lanes sizes cells : Nat → Int32} (hk : 1 ≤ k) (hk4 : k ≤ 4) (hj : j < wd_n k) : Go d 164 0 [some (.int (nI j)), some (.int (nI k)), none] [] (hM st draft kept isKept tape taped pos begun sort fault wrongAt rows places aheads readings isFound now at_ place rank nounBits verbBits inner table next powers things holding patterns seeded lanes sizes cells) (some (.int (nI (wd_c k j)))) (hM st draft kept isKept tape taped pos begun sort fault wrongAt rows places aheads readings isFound now at_ place rank nounBits verbBits inner table next powers things holding patterns seeded lanes sizes cells) := by
  have h40 := wd_n_lt hk4
  obtain ⟨z1, z2⟩ := cz_1 k (by omega) hk
  have y1 := cz_2a k (by omega) j (by omega) hk
  have y2 := cz_2b k (by omega) j (by omega) hk
  exact b_X9_cellOf_0 ⟨fun q => ⟨z1, z2, z2, z2, by rw [y1 q], rfl⟩, fun q => ⟨z2, z2, by rw [y2 q], rfl⟩⟩
theorem cz_3 : ∀ k, k < 5 → (2 : Int32) * nI k + (2 : Int32) * nI k * nI k = nI (wd_n k) := by decide +kernel
theorem cz_s : ∀ n, n < 32 → ((nI n &&& 31).toBitVec.smod 32).toNat = n := by decide +kernel
theorem cz_4 {w j : Nat} (hw : w < 2 ^ 31) (hj : j < 32) : (nI w >>> (nI j &&& 31)) &&& (1 : Int32) = if w.testBit j then 1 else 0 := by
  rw [pk_shrN hw _ j (cz_s j hj), pk_andN (n := w / 2 ^ j) (by have := Nat.div_le_self w (2 ^ j); omega) 1 (by decide)]
  rw [Nat.testBit_eq_decide_div_mod_eq]
  have h2 : w / 2 ^ j % 2 = 0 ∨ w / 2 ^ j % 2 = 1 := by omega
  rcases h2 with h2 | h2
  · simp [h2]; rfl
  · simp [h2]; rfl
