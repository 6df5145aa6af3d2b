/-! the world: is, does, told, things -/
def wset (F : Int64) (j : Nat) (b : Bool) : Int64 := if b then F ||| ((1 : Int64) <<< ((nI j).toInt64 &&& 63)) else F &&& (((1 : Int64) <<< ((nI j).toInt64 &&& 63)) ^^^ (Int64.ofNat 18446744073709551615))
theorem wset_bit {F : Int64} {j i : Nat} {b : Bool} (hj : j < 64) (hi : i < 64) : wd_bit (wset F j b) i = if i = j then b else wd_bit F i := by
  unfold wset
  cases b with
  | true =>
    rw [if_pos rfl, bx_or, bx_bit1 hj]
    by_cases h : i = j
    · simp [h]
    · simp [h]
  | false =>
    rw [if_neg (by decide), bx_and, bx_xor, bx_bit1 hj, bx_m1 hi]
    by_cases h : i = j
    · simp [h]
    · simp [h]
theorem x_change {d : Nat} {tN : Int32} {tB : Nat → Int32} {pF pA pT pB dN dO dV dZ : Int32} {dQ dU dW : Nat → Int32} {sN sO sV sZ : Int32} {sQ sU sW : Nat → Int32} {rN : Int32} {rP rK rF rR rT rL rQ : Nat → Int32} {mS : Int32} {mT : Nat → Int64} {mK : Nat → Int32} {mF : Nat → Int64} {mG m1 m2 : Nat → Int32} {wN : Int32} {wF : Int64} {yN : Int32} {yF : Int64} {iK eN eO eV eZ : Int32} {eQ eU eW : Nat → Int32} {eS : Int32} {eB : Int64} {jK fN fO fV fZ : Int32} {fQ fU fW : Nat → Int32} {fS : Int32} {fB : Int64} {h0N h0L : Int32} {h0C : Nat → Int32} {h1N h1L : Int32} {h1C : Nat → Int32} {h2N h2L : Int32} {h2C : Nat → Int32} {h3N h3L : Int32} {h3C : Nat → Int32} {j : Nat} {b : Bool} (hj : j < 64) : Go (d + 1) 54 0 [some (.ref 27), some (.int (nI j)), some (.int (if b then (1 : Int32) else 0)), none] [] (hX tN tB pF pA pT pB dN dO dV dZ dQ dU dW sN sO sV sZ sQ sU sW rN rP rK rF rR rT rL rQ mS mT mK mF mG m1 m2 wN wF yN yF iK eN eO eV eZ eQ eU eW eS eB jK fN fO fV fZ fQ fU fW fS fB h0N h0L h0C h1N h1L h1C h2N h2L h2C h3N h3L h3C) (some (.int (if wd_bit wF j then 1 else 0))) (hX tN tB pF pA pT pB dN dO dV dZ dQ dU dW sN sO sV sZ sQ sU sW rN rP rK rF rR rT rL rQ mS mT mK mF mG m1 m2 wN (wset wF j b) yN yF iK eN eO eV eZ eQ eU eW eS eB jK fN fO fV fZ fQ fU fW fS fB h0N h0L h0C h1N h1L h1C h2N h2L h2C h3N h3L h3C) := by
  cases b with
  | true => exact b_X7_change_0 ⟨fun q => absurd rfl q, fun _ => ⟨by rw [bx_get hj], rfl⟩⟩
  | false => exact b_X7_change_0 ⟨fun _ => ⟨by rw [bx_get hj], rfl⟩, fun q => absurd q (by decide)⟩
theorem wd_n_lt {k : Nat} (hk : k ≤ 4) : wd_n k ≤ 40 := by
  have : k = 0 ∨ k = 1 ∨ k = 2 ∨ k = 3 ∨ k = 4 := by omega
  rcases this with rfl | rfl | rfl | rfl | rfl <;> decide
/-- a number that is a truth value -/
theorem i_01 (x : Int32) : (¬ x = 0 ∧ ¬ x = 1 ∧ ¬ ((0 : Int32) ≤ x ∧ x ≤ 1)) ∨ ∃ b : Bool, x = (if b then (1 : Int32) else 0) := by
  rcases pk_ix x (n := 2) (by decide) with h | h | ⟨j, hj, rfl⟩
  · exact Or.inl ⟨fun z => by rw [z] at h; exact absurd h (by decide), fun z => by rw [z] at h; exact absurd h (by decide), fun z => absurd h (Int32.not_lt.mpr z.1)⟩
  · refine Or.inl ⟨fun z => by rw [z] at h; exact absurd h (by decide), fun z => by rw [z] at h; exact absurd h (by decide), fun z => ?_⟩
    have := Int32.le_trans h z.2
    exact absurd this (by decide)
  · refine Or.inr ?_
    have : j = 0 ∨ j = 1 := by omega
    rcases this with rfl | rfl
    · exact ⟨false, rfl⟩
    · exact ⟨true, rfl⟩
/-- a number within 0 .. k - 1, or not: for both sides' ways of asking -/
theorem i_rng (x : Int32) {k : Nat} (h1 : 1 ≤ k) (hk : k < 2 ^ 31) : (¬ ((0 : Int32) ≤ x ∧ x < nI k) ∧ ¬ ((0 : Int32) ≤ x ∧ x ≤ nI k - 1)) ∨ ∃ j : Nat, j < k ∧ x = nI j ∧ ((0 : Int32) ≤ x ∧ x < nI k) ∧ ((0 : Int32) ≤ x ∧ x ≤ nI k - 1) := by
  have e : nI k - 1 = nI (k - 1) := by
    obtain ⟨z, rfl⟩ : ∃ z, k = z + 1 := ⟨k - 1, by omega⟩
    exact nI_pred z
  rw [e]
  rcases pk_ix x hk with h | h | ⟨j, hj, rfl⟩
  · exact Or.inl ⟨fun z => absurd h (Int32.not_lt.mpr z.1), fun z => absurd h (Int32.not_lt.mpr z.1)⟩
  · refine Or.inl ⟨fun z => absurd z.2 (Int32.not_lt.mpr h), fun z => ?_⟩
    have := Int32.le_trans h z.2
    exact absurd this (nI_ge (a := k - 1) (b := k) (by omega) hk)
  · exact Or.inr ⟨j, hj, rfl, ⟨nI_pos' (by omega), nI_lt hj hk⟩, nI_pos' (by omega), nI_le (by omega) (by omega)⟩
