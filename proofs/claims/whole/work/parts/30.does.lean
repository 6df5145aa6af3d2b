/-! does, told -/
theorem l_does {d : Nat} {tN : Int32} {tB : Nat → Int32} {pF pA pT pB dN dO dV dZ : Int32} {dQ dU dW : Nat → Int32} {sN sO sV sZ : Int32} {sQ sU sW : Nat → Int32} {rN : Int32} {rP rK rF rR rT rL rQ : Nat → Int32} {mS : Int32} {mT : Nat → Int64} {mK : Nat → Int32} {mF : Nat → Int64} {mG m1 m2 : Nat → Int32} {wN : Int32} {wF : Int64} {yN : Int32} {yF : Int64} {iK eN eO eV eZ : Int32} {eQ eU eW : Nat → Int32} {eS : Int32} {eB : Int64} {jK fN fO fV fZ : Int32} {fQ fU fW : Nat → Int32} {fS : Int32} {fB : Int64} {h0N h0L : Int32} {h0C : Nat → Int32} {h1N h1L : Int32} {h1C : Nat → Int32} {h2N h2L : Int32} {h2C : Nat → Int32} {h3N h3L : Int32} {h3C : Nat → Int32} {st draft kept isKept tape : Nat → Int32} {taped pos begun sort fault wrongAt : Int32} {rows places aheads : Nat → Int32} {readings isFound : Int32} {now at_ place rank : Nat → Int32} {nounBits verbBits inner table next : Nat → Int64} {powers : Nat → Int32} {things : Int32} {holding patterns : Nat → Int64} {seeded : Int32} {lanes sizes cells : Nat → Int32} {p0 p1 p2 p3 : Int32} (R : wd_R wN wF st) : ∃ (v : Int32) (wF' : Int64) (st' : Nat → Int32), Go (d + 2) 78 0 [some (.ref 0), some (.int p0), some (.int p1), some (.int p2), some (.int p3)] [] (hX tN tB pF pA pT pB dN dO dV dZ dQ dU dW sN sO sV sZ sQ sU sW rN rP rK rF rR rT rL rQ mS mT mK mF mG m1 m2 wN wF yN yF iK eN eO eV eZ eQ eU eW eS eB jK fN fO fV fZ fQ fU fW fS fB h0N h0L h0C h1N h1L h1C h2N h2L h2C h3N h3L h3C) (some (.int v)) (hX tN tB pF pA pT pB dN dO dV dZ dQ dU dW sN sO sV sZ sQ sU sW rN rP rK rF rR rT rL rQ mS mT mK mF mG m1 m2 wN wF' yN yF iK eN eO eV eZ eQ eU eW eS eB jK fN fO fV fZ fQ fU fW fS fB h0N h0L h0C h1N h1L h1C h2N h2L h2C h3N h3L h3C) ∧ Go (d + 2) 169 0 [some (.ref 0), some (.int p0), some (.int p1), some (.int p2), some (.int p3), none, none] [] (hM st draft kept isKept tape taped pos begun sort fault wrongAt rows places aheads readings isFound now at_ place rank nounBits verbBits inner table next powers things holding patterns seeded lanes sizes cells) (some (.int v)) (hM st' draft kept isKept tape taped pos begun sort fault wrongAt rows places aheads readings isFound now at_ place rank nounBits verbBits inner table next powers things holding patterns seeded lanes sizes cells) ∧ wd_R wN wF' st' ∧ ∀ j, j < 23 → st' j = st j := by
  obtain ⟨k, b, hk, hk4, hX, hM⟩ := R
  have e23 : st 23 = nI k := hM.1
  have eN := hX.1
  subst eN
  have bad : wd_R (nI k) wF st ∧ ∀ j, j < 23 → st j = st j := ⟨⟨k, b, hk, hk4, hX, hM⟩, fun _ _ => rfl⟩
  rcases i_rng p0 (k := 2) (by decide) (by decide) with ⟨a1, a2⟩ | ⟨i, hi, rfl, a1, a2⟩
  · refine ⟨-1, wF, st, b_X8_does_0 ⟨fun _ => ⟨rfl, rfl⟩, fun q => ⟨fun _ => ⟨rfl, rfl⟩, fun q2 => absurd ⟨Int32.not_lt.mp q, Int32.not_le.mp q2⟩ a1⟩⟩, b_X9_does_0 ⟨fun _ => ⟨rfl, rfl⟩, fun q => absurd q a2⟩, bad⟩
  rcases i_rng p1 (k := k) hk (by omega) with ⟨c1, c2⟩ | ⟨t, ht, rfl, c1, c2⟩
  · rw [← e23] at c2
    refine ⟨-1, wF, st, b_X8_does_0 ⟨fun q => absurd a1.1 (Int32.not_le.mpr q), fun _ => ⟨fun q => absurd a1.2 (Int32.not_lt.mpr q), fun _ => ⟨fun _ => ⟨rfl, rfl⟩, fun q => absurd q c1⟩⟩⟩, b_X9_does_0 ⟨fun q => absurd a2 q, fun _ => ⟨fun _ => ⟨rfl, rfl⟩, fun q => absurd q c2⟩⟩, bad⟩
  rw [← e23] at c2
  rcases i_rng p2 (k := k) hk (by omega) with ⟨e1, e2⟩ | ⟨u, hu, rfl, e1, e2⟩
  · rw [← e23] at e2
    refine ⟨-1, wF, st, b_X8_does_0 ⟨fun q => absurd a1.1 (Int32.not_le.mpr q), fun _ => ⟨fun q => absurd a1.2 (Int32.not_lt.mpr q), fun _ => ⟨fun q => absurd c1 q, fun _ => ⟨fun _ => ⟨rfl, rfl⟩, fun q => absurd q e1⟩⟩⟩⟩, b_X9_does_0 ⟨fun q => absurd a2 q, fun _ => ⟨fun q => absurd c2 q, fun _ => ⟨fun _ => ⟨rfl, rfl⟩, fun q => absurd q e2⟩⟩⟩, bad⟩
  rw [← e23] at e2
  rcases i_01 p3 with ⟨z1, z2, z3⟩ | ⟨x, rfl⟩
  · refine ⟨-1, wF, st, b_X8_does_0 ⟨fun q => absurd a1.1 (Int32.not_le.mpr q), fun _ => ⟨fun q => absurd a1.2 (Int32.not_lt.mpr q), fun _ => ⟨fun q => absurd c1 q, fun _ => ⟨fun q => absurd e1 q, fun _ => ⟨fun q => absurd q z1, fun _ => ⟨fun q => absurd q z2, fun _ => ⟨rfl, rfl⟩⟩⟩⟩⟩⟩⟩, b_X9_does_0 ⟨fun q => absurd a2 q, fun _ => ⟨fun q => absurd c2 q, fun _ => ⟨fun q => absurd e2 q, fun _ => ⟨fun q => absurd q z3, fun _ => ⟨rfl, rfl⟩⟩⟩⟩⟩, bad⟩
  obtain ⟨w1, w2⟩ := wd_verb hk hk4 hi ht hu
  have h40 := wd_n_lt hk4
  have hrng := wd_c_rng hk hk4 _ w1
  rw [w2] at hrng
  have eX : (2 : Int32) * nI k + (nI i * nI k + nI t) * nI k + nI u = nI (2 * k + (i * k + t) * k + u) := by
    show nI 2 * nI k + (nI i * nI k + nI t) * nI k + nI u = _
    simp only [pk_mul, nI_add]
  have eM : ((32 : Int32) + (16 : Int32) * nI i) + (4 : Int32) * nI t + nI u = nI (32 + 16 * i + 4 * t + u) := by
    show nI 32 + nI 16 * nI i + nI 4 * nI t + nI u = _
    simp only [pk_mul, nI_add]
  have ev : st (32 + 16 * i + 4 * t + u) = if wd_bit wF (2 * k + (i * k + t) * k + u) then 1 else 0 := by
    have := hM.2 _ w1
    rw [Nat.zero_add, w2] at this
    rw [this, hX.2 _ w1]
  obtain ⟨r1, r2⟩ := wd_put (x := x) hk hk4 w1 hX hM
  rw [w2] at r2
  have p01 : (0 : Int32) ≤ (if x then (1 : Int32) else 0) ∧ (if x then (1 : Int32) else 0) ≤ (1 : Int32) := by cases x <;> decide
  refine ⟨(if wd_bit wF (2 * k + (i * k + t) * k + u) then 1 else 0), wset wF (2 * k + (i * k + t) * k + u) x, upd st (32 + 16 * i + 4 * t + u) (if x then 1 else 0), b_X8_does_0 ⟨fun q => absurd a1.1 (Int32.not_le.mpr q), fun _ => ⟨fun q => absurd a1.2 (Int32.not_lt.mpr q), fun _ => ⟨fun q => absurd c1 q, fun _ => ⟨fun q => absurd e1 q, fun _ => ⟨fun _ => ⟨(if wd_bit wF (2 * k + (i * k + t) * k + u) then 1 else 0), wset wF (2 * k + (i * k + t) * k + u) x, by rw [eX]; exact x_change (by omega), rfl, rfl⟩, fun q1 => ⟨fun _ => ⟨(if wd_bit wF (2 * k + (i * k + t) * k + u) then 1 else 0), wset wF (2 * k + (i * k + t) * k + u) x, by rw [eX]; exact x_change (by omega), rfl, rfl⟩, fun q2 => ?_⟩⟩⟩⟩⟩⟩, b_X9_does_0 ⟨fun q => absurd a2 q, fun _ => ⟨fun q => absurd c2 q, fun _ => ⟨fun q => absurd e2 q, fun _ => ⟨fun _ => ⟨32 + 16 * i + 4 * t + u, eM, by omega, 32 + 16 * i + 4 * t + u, eM, by omega, by rw [ev], rfl⟩, fun q => absurd p01 q⟩⟩⟩⟩, ⟨k, _, hk, hk4, r1, r2⟩, fun j hj => by rw [pk_un (by omega)]⟩
  cases x
  · exact absurd rfl q1
  · exact absurd rfl q2
theorem l_told {d : Nat} {tN : Int32} {tB : Nat → Int32} {pF pA pT pB dN dO dV dZ : Int32} {dQ dU dW : Nat → Int32} {sN sO sV sZ : Int32} {sQ sU sW : Nat → Int32} {rN : Int32} {rP rK rF rR rT rL rQ : Nat → Int32} {mS : Int32} {mT : Nat → Int64} {mK : Nat → Int32} {mF : Nat → Int64} {mG m1 m2 : Nat → Int32} {wN : Int32} {wF : Int64} {yN : Int32} {yF : Int64} {iK eN eO eV eZ : Int32} {eQ eU eW : Nat → Int32} {eS : Int32} {eB : Int64} {jK fN fO fV fZ : Int32} {fQ fU fW : Nat → Int32} {fS : Int32} {fB : Int64} {h0N h0L : Int32} {h0C : Nat → Int32} {h1N h1L : Int32} {h1C : Nat → Int32} {h2N h2L : Int32} {h2C : Nat → Int32} {h3N h3L : Int32} {h3C : Nat → Int32} {st draft kept isKept tape : Nat → Int32} {taped pos begun sort fault wrongAt : Int32} {rows places aheads : Nat → Int32} {readings isFound : Int32} {now at_ place rank : Nat → Int32} {nounBits verbBits inner table next : Nat → Int64} {powers : Nat → Int32} {things : Int32} {holding patterns : Nat → Int64} {seeded : Int32} {lanes sizes cells : Nat → Int32} {p0 p1 p2 : Int32} (R : wd_R wN wF st) : ∃ v : Int32, Go (d + 2) 79 0 [some (.ref 0), some (.int p0), some (.int p1), some (.int p2)] [] (hX tN tB pF pA pT pB dN dO dV dZ dQ dU dW sN sO sV sZ sQ sU sW rN rP rK rF rR rT rL rQ mS mT mK mF mG m1 m2 wN wF yN yF iK eN eO eV eZ eQ eU eW eS eB jK fN fO fV fZ fQ fU fW fS fB h0N h0L h0C h1N h1L h1C h2N h2L h2C h3N h3L h3C) (some (.int v)) (hX tN tB pF pA pT pB dN dO dV dZ dQ dU dW sN sO sV sZ sQ sU sW rN rP rK rF rR rT rL rQ mS mT mK mF mG m1 m2 wN wF yN yF iK eN eO eV eZ eQ eU eW eS eB jK fN fO fV fZ fQ fU fW fS fB h0N h0L h0C h1N h1L h1C h2N h2L h2C h3N h3L h3C) ∧ Go (d + 2) 170 0 [some (.ref 0), some (.int p0), some (.int p1), some (.int p2)] [] (hM st draft kept isKept tape taped pos begun sort fault wrongAt rows places aheads readings isFound now at_ place rank nounBits verbBits inner table next powers things holding patterns seeded lanes sizes cells) (some (.int v)) (hM st draft kept isKept tape taped pos begun sort fault wrongAt rows places aheads readings isFound now at_ place rank nounBits verbBits inner table next powers things holding patterns seeded lanes sizes cells) := by
  obtain ⟨k, b, hk, hk4, hX, hM⟩ := R
  have e23 : st 23 = nI k := hM.1
  have eN := hX.1
  subst eN
  rcases i_rng p0 (k := 4) (by decide) (by decide) with ⟨a1, a2⟩ | ⟨i, hi, rfl, a1, a2⟩
  · exact ⟨-1, b_X8_told_0 ⟨fun _ => ⟨rfl, rfl⟩, fun q => ⟨fun _ => ⟨rfl, rfl⟩, fun q2 => absurd ⟨Int32.not_lt.mp q, Int32.not_le.mp q2⟩ a1⟩⟩, b_X9_told_0 ⟨fun _ => ⟨rfl, rfl⟩, fun q => absurd q a2⟩⟩
  rcases i_rng p1 (k := k) hk (by omega) with ⟨c1, c2⟩ | ⟨t, ht, rfl, c1, c2⟩
  · rw [← e23] at c2
    exact ⟨-1, b_X8_told_0 ⟨fun q => absurd a1.1 (Int32.not_le.mpr q), fun _ => ⟨fun q => absurd a1.2 (Int32.not_lt.mpr q), fun _ => ⟨fun q => absurd q c1, fun _ => ⟨rfl, rfl⟩⟩⟩⟩, b_X9_told_0 ⟨fun q => absurd a2 q, fun _ => ⟨fun _ => ⟨rfl, rfl⟩, fun q => absurd q c2⟩⟩⟩
  rw [← e23] at c2
  have h40 := wd_n_lt hk4
  by_cases hi2 : i < 2
  · obtain ⟨w1, w2⟩ := wd_noun hk hi2 ht
    have n1 : ¬ (2 : Int32) ≤ nI i := nI_ge (a := i) (b := 2) hi2 (by decide)
    have n2 : nI i ≤ (1 : Int32) := nI_le (a := i) (b := 1) (by omega) (by decide)
    have eX : nI i * nI k + nI t = nI (i * k + t) := by rw [pk_mul, nI_add]
    have eM : ((24 : Int32) + (4 : Int32) * nI i) + nI t = nI (24 + 4 * i + t) := by
      show nI 24 + nI 4 * nI i + nI t = _
      rw [pk_mul, nI_add, nI_add]
    have ev : st (24 + 4 * i + t) = if wd_bit wF (i * k + t) then 1 else 0 := by
      have := hM.2 _ w1
      rw [Nat.zero_add, w2] at this
      rw [this, hX.2 _ w1]
    exact ⟨(if wd_bit wF (i * k + t) then 1 else 0), b_X8_told_0 ⟨fun q => absurd a1.1 (Int32.not_le.mpr q), fun _ => ⟨fun q => absurd a1.2 (Int32.not_lt.mpr q), fun _ => ⟨fun _ => ⟨fun q => absurd q n1, fun _ => ⟨by rw [eX, bx_get (by omega)], rfl⟩⟩, fun q => absurd c1 q⟩⟩⟩, b_X9_told_0 ⟨fun q => absurd a2 q, fun _ => ⟨fun q => absurd c2 q, fun _ => ⟨fun _ => ⟨fun q => absurd q n1, fun _ => ⟨24 + 4 * i + t, eM, by omega, by rw [ev], rfl⟩⟩, fun q => absurd n2 q⟩⟩⟩⟩
  · obtain ⟨z, rfl⟩ : ∃ z, i = z + 2 := ⟨i - 2, by omega⟩
    have n1 : (2 : Int32) ≤ nI (z + 2) := nI_le (a := 2) (b := z + 2) (by omega) (by omega)
    have n2 : ¬ nI (z + 2) ≤ (1 : Int32) := nI_ge (a := 1) (b := z + 2) (by omega) (by omega)
    rcases i_rng p2 (k := k) hk (by omega) with ⟨e1, e2⟩ | ⟨u, hu, rfl, e1, e2⟩
    · rw [← e23] at e2
      exact ⟨-1, b_X8_told_0 ⟨fun q => absurd a1.1 (Int32.not_le.mpr q), fun _ => ⟨fun q => absurd a1.2 (Int32.not_lt.mpr q), fun _ => ⟨fun _ => ⟨fun _ => ⟨fun q => absurd q e1, fun _ => ⟨rfl, rfl⟩⟩, fun q => absurd n1 q⟩, fun q => absurd c1 q⟩⟩⟩, b_X9_told_0 ⟨fun q => absurd a2 q, fun _ => ⟨fun q => absurd c2 q, fun _ => ⟨fun q => absurd q n2, fun _ => ⟨fun q => absurd q e2, fun _ => ⟨rfl, rfl⟩⟩⟩⟩⟩⟩
    rw [← e23] at e2
    obtain ⟨w1, w2⟩ := wd_verb (i := z) hk hk4 (by omega) ht hu
    have hrng := wd_c_rng hk hk4 _ w1
    rw [w2] at hrng
    have ez : nI (z + 2) - (2 : Int32) = nI z := by
      show nI (z + 2) - nI 2 = nI z
      rw [pk_sub (by omega)]
      rfl
    have eX : (2 : Int32) * nI k + ((nI (z + 2) - (2 : Int32)) * nI k + nI t) * nI k + nI u = nI (2 * k + (z * k + t) * k + u) := by
      rw [ez]
      show nI 2 * nI k + (nI z * nI k + nI t) * nI k + nI u = _
      simp only [pk_mul, nI_add]
    have eM : ((32 : Int32) + (16 : Int32) * (nI (z + 2) - (2 : Int32))) + (4 : Int32) * nI t + nI u = nI (32 + 16 * z + 4 * t + u) := by
      rw [ez]
      show nI 32 + nI 16 * nI z + nI 4 * nI t + nI u = _
      simp only [pk_mul, nI_add]
    have ev : st (32 + 16 * z + 4 * t + u) = if wd_bit wF (2 * k + (z * k + t) * k + u) then 1 else 0 := by
      have := hM.2 _ w1
      rw [Nat.zero_add, w2] at this
      rw [this, hX.2 _ w1]
    exact ⟨(if wd_bit wF (2 * k + (z * k + t) * k + u) then 1 else 0), b_X8_told_0 ⟨fun q => absurd a1.1 (Int32.not_le.mpr q), fun _ => ⟨fun q => absurd a1.2 (Int32.not_lt.mpr q), fun _ => ⟨fun _ => ⟨fun _ => ⟨fun _ => ⟨by rw [eX, bx_get (by omega)], rfl⟩, fun q => absurd e1 q⟩, fun q => absurd n1 q⟩, fun q => absurd c1 q⟩⟩⟩, b_X9_told_0 ⟨fun q => absurd a2 q, fun _ => ⟨fun q => absurd c2 q, fun _ => ⟨fun q => absurd q n2, fun _ => ⟨fun _ => ⟨fun _ => ⟨32 + 16 * z + 4 * t + u, eM, by omega, by rw [ev], rfl⟩, fun q => absurd n1 q⟩, fun q => absurd e2 q⟩⟩⟩⟩⟩
