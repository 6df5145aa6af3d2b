/-! is, does, told -/
theorem wd_noun {k i j : Nat} (hk : 1 ≤ k) (hi : i < 2) (hj : j < k) : i * k + j < wd_n k ∧ wd_c k (i * k + j) = 24 + 4 * i + j := by
  have h1 : i * k + j < 2 * k := by
    have : i = 0 ∨ i = 1 := by omega
    rcases this with rfl | rfl <;> omega
  refine ⟨Nat.lt_of_lt_of_le h1 (Nat.le_add_right _ _), ?_⟩
  unfold wd_c
  rw [if_pos h1]
  have h2 : (i * k + j) / k = i := by
    rw [Nat.mul_comm, Nat.mul_add_div (by omega), Nat.div_eq_of_lt hj, Nat.add_zero]
  have h3 : (i * k + j) % k = j := by
    rw [Nat.mul_comm, Nat.mul_add_mod, Nat.mod_eq_of_lt hj]
  rw [h2, h3]
theorem wd_verb {k i t u : Nat} (hk : 1 ≤ k) (hk4 : k ≤ 4) (hi : i < 2) (ht : t < k) (hu : u < k) : 2 * k + (i * k + t) * k + u < wd_n k ∧ wd_c k (2 * k + (i * k + t) * k + u) = 32 + 16 * i + 4 * t + u := by
  have : ∀ k, k ≤ 4 → ∀ i, i < 2 → ∀ t, t < k → ∀ u, u < k → 2 * k + (i * k + t) * k + u < wd_n k ∧ wd_c k (2 * k + (i * k + t) * k + u) = 32 + 16 * i + 4 * t + u := by decide +kernel
  exact this k hk4 i hi t ht u hu
/-- a fact changed on both sides -/
theorem wd_put {N : Int32} {F : Int64} {st : Nat → Int32} {k j : Nat} {b : Nat → Bool} {x : Bool} (hk : 1 ≤ k) (hk4 : k ≤ 4) (hj : j < wd_n k) (hX : wd_X N F k b) (hM : wd_M st 0 k b) : wd_X N (wset F j x) k (fun i => if i = j then x else b i) ∧ wd_M (upd st (wd_c k j) (if x then 1 else 0)) 0 k (fun i => if i = j then x else b i) := by
  have h40 := wd_n_lt hk4
  refine ⟨⟨hX.1, fun i hi => ?_⟩, ?_, fun i hi => ?_⟩
  · rw [wset_bit (by omega) (by omega)]
    by_cases h : i = j
    · simp [h]
    · simp [h, hX.2 i hi]
  · have := wd_c_rng hk hk4 j hj
    rw [pk_un (by omega)]
    exact hM.1
  · by_cases h : i = j
    · subst h
      rw [Nat.zero_add, pk_us]
      simp
    · have h1 : wd_c k i ≠ wd_c k j := fun z => h (wd_c_inj hk hk4 i hi j hj z)
      rw [Nat.zero_add, pk_un h1]
      have := hM.2 i hi
      rw [Nat.zero_add] at this
      simp [h, this]
def wd_R (N : Int32) (F : Int64) (st : Nat → Int32) : Prop := ∃ (k : Nat) (b : Nat → Bool), 1 ≤ k ∧ k ≤ 4 ∧ wd_X N F k b ∧ wd_M st 0 k b
theorem l_is {d : Nat} {tN : Int32} {tB : Nat → Int32} {pF pA pT pB dN dO dV dZ : Int32} {dQ dU dW : Nat → Int32} {sN sO sV sZ : Int32} {sQ sU sW : Nat → Int32} {rN : Int32} {rP rK rF rR rT rL rQ : Nat → Int32} {mS : Int32} {mT : Nat → Int64} {mK : Nat → Int32} {mF : Nat → Int64} {mG m1 m2 : Nat → Int32} {wN : Int32} {wF : Int64} {yN : Int32} {yF : Int64} {iK eN eO eV eZ : Int32} {eQ eU eW : Nat → Int32} {eS : Int32} {eB : Int64} {jK fN fO fV fZ : Int32} {fQ fU fW : Nat → Int32} {fS : Int32} {fB : Int64} {h0N h0L : Int32} {h0C : Nat → Int32} {h1N h1L : Int32} {h1C : Nat → Int32} {h2N h2L : Int32} {h2C : Nat → Int32} {h3N h3L : Int32} {h3C : Nat → Int32} {st draft kept isKept tape : Nat → Int32} {taped pos begun sort fault wrongAt : Int32} {rows places aheads : Nat → Int32} {readings isFound : Int32} {now at_ place rank : Nat → Int32} {nounBits verbBits inner table next : Nat → Int64} {powers : Nat → Int32} {things : Int32} {holding patterns : Nat → Int64} {seeded : Int32} {lanes sizes cells : Nat → Int32} {p0 p1 p2 : Int32} (R : wd_R wN wF st) : ∃ (v : Int32) (wF' : Int64) (st' : Nat → Int32), Go (d + 2) 77 0 [some (.ref 0), some (.int p0), some (.int p1), some (.int p2)] [] (hX tN tB pF pA pT pB dN dO dV dZ dQ dU dW sN sO sV sZ sQ sU sW rN rP rK rF rR rT rL rQ mS mT mK mF mG m1 m2 wN wF yN yF iK eN eO eV eZ eQ eU eW eS eB jK fN fO fV fZ fQ fU fW fS fB h0N h0L h0C h1N h1L h1C h2N h2L h2C h3N h3L h3C) (some (.int v)) (hX tN tB pF pA pT pB dN dO dV dZ dQ dU dW sN sO sV sZ sQ sU sW rN rP rK rF rR rT rL rQ mS mT mK mF mG m1 m2 wN wF' yN yF iK eN eO eV eZ eQ eU eW eS eB jK fN fO fV fZ fQ fU fW fS fB h0N h0L h0C h1N h1L h1C h2N h2L h2C h3N h3L h3C) ∧ Go (d + 2) 168 0 [some (.ref 0), some (.int p0), some (.int p1), some (.int p2), none] [] (hM st draft kept isKept tape taped pos begun sort fault wrongAt rows places aheads readings isFound now at_ place rank nounBits verbBits inner table next powers things holding patterns seeded lanes sizes cells) (some (.int v)) (hM st' draft kept isKept tape taped pos begun sort fault wrongAt rows places aheads readings isFound now at_ place rank nounBits verbBits inner table next powers things holding patterns seeded lanes sizes cells) ∧ wd_R wN wF' st' ∧ ∀ j, j < 23 → st' j = st j := by
  obtain ⟨k, b, hk, hk4, hX, hM⟩ := R
  have e23 : st 23 = nI k := hM.1
  have eN := hX.1
  subst eN
  have bad : wd_R (nI k) wF st ∧ ∀ j, j < 23 → st j = st j := ⟨⟨k, b, hk, hk4, hX, hM⟩, fun _ _ => rfl⟩
  rcases i_rng p0 (k := 2) (by decide) (by decide) with ⟨a1, a2⟩ | ⟨i, hi, rfl, a1, a2⟩
  · refine ⟨-1, wF, st, b_X8_is_0 ⟨fun _ => ⟨rfl, rfl⟩, fun q => ⟨fun _ => ⟨rfl, rfl⟩, fun q2 => absurd ⟨Int32.not_lt.mp q, Int32.not_le.mp q2⟩ a1⟩⟩, b_X9_is__0 ⟨fun _ => ⟨rfl, rfl⟩, fun q => absurd q a2⟩, bad⟩
  rcases i_rng p1 (k := k) hk (by omega) with ⟨c1, c2⟩ | ⟨t, ht, rfl, c1, c2⟩
  · rw [← e23] at c2
    refine ⟨-1, wF, st, b_X8_is_0 ⟨fun q => absurd a1.1 (Int32.not_le.mpr q), fun _ => ⟨fun q => absurd a1.2 (Int32.not_lt.mpr q), fun _ => ⟨fun _ => ⟨rfl, rfl⟩, fun q => absurd q c1⟩⟩⟩, b_X9_is__0 ⟨fun q => absurd a2 q, fun _ => ⟨fun _ => ⟨rfl, rfl⟩, fun q => absurd q c2⟩⟩, bad⟩
  rw [← e23] at c2
  rcases i_01 p2 with ⟨z1, z2, z3⟩ | ⟨x, rfl⟩
  · refine ⟨-1, wF, st, b_X8_is_0 ⟨fun q => absurd a1.1 (Int32.not_le.mpr q), fun _ => ⟨fun q => absurd a1.2 (Int32.not_lt.mpr q), fun _ => ⟨fun q => absurd c1 q, fun _ => ⟨fun q => absurd q z1, fun _ => ⟨fun q => absurd q z2, fun _ => ⟨rfl, rfl⟩⟩⟩⟩⟩⟩, b_X9_is__0 ⟨fun q => absurd a2 q, fun _ => ⟨fun q => absurd c2 q, fun _ => ⟨fun q => absurd q z3, fun _ => ⟨rfl, rfl⟩⟩⟩⟩, bad⟩
  obtain ⟨w1, w2⟩ := wd_noun hk hi ht
  have h40 := wd_n_lt hk4
  have eX : nI i * nI k + nI t = nI (i * k + t) := by rw [pk_mul, nI_add]
  have eM : ((24 : Int32) + (4 : Int32) * nI i) + nI t = nI (24 + 4 * i + t) := by
    show nI 24 + nI 4 * nI i + nI t = _
    rw [pk_mul, nI_add, nI_add]
  have ev : st (24 + 4 * i + t) = if wd_bit wF (i * k + t) then 1 else 0 := by
    have := hM.2 _ w1
    rw [Nat.zero_add, w2] at this
    rw [this, hX.2 _ w1]
  obtain ⟨r1, r2⟩ := wd_put (x := x) hk hk4 w1 hX hM
  rw [w2] at r2
  have p01 : (0 : Int32) ≤ (if x then (1 : Int32) else 0) ∧ (if x then (1 : Int32) else 0) ≤ (1 : Int32) := by cases x <;> decide
  refine ⟨(if wd_bit wF (i * k + t) then 1 else 0), wset wF (i * k + t) x, upd st (24 + 4 * i + t) (if x then 1 else 0), b_X8_is_0 ⟨fun q => absurd a1.1 (Int32.not_le.mpr q), fun _ => ⟨fun q => absurd a1.2 (Int32.not_lt.mpr q), fun _ => ⟨fun q => absurd c1 q, fun _ => ⟨fun _ => ⟨(if wd_bit wF (i * k + t) then 1 else 0), wset wF (i * k + t) x, by rw [eX]; exact x_change (by omega), rfl, rfl⟩, fun q1 => ⟨fun _ => ⟨(if wd_bit wF (i * k + t) then 1 else 0), wset wF (i * k + t) x, by rw [eX]; exact x_change (by omega), rfl, rfl⟩, fun q2 => ?_⟩⟩⟩⟩⟩, b_X9_is__0 ⟨fun q => absurd a2 q, fun _ => ⟨fun q => absurd c2 q, fun _ => ⟨fun _ => ⟨24 + 4 * i + t, eM, by omega, 24 + 4 * i + t, eM, by omega, by rw [ev], rfl⟩, fun q => absurd p01 q⟩⟩⟩, ⟨k, _, hk, hk4, r1, r2⟩, fun j hj => by rw [pk_un (by omega)]⟩
  cases x
  · exact absurd rfl q1
  · exact absurd rfl q2
