/-! becomes; keep -/
theorem sn_S.setQ {n o p : Nat} {N O V x : Int32} {Q U W st : Nat → Int32} (S : sn_S n o N O V Q U W st 0) (hp : p < n) (hx : x = 0 ∨ x = 1 ∨ x = 2 ∨ x = 3) : sn_S n o N O V (upd Q p x) U W (upd st (3 + 5 * p) x) 0 := by
  obtain ⟨⟨h1, h2, h3, h4, h5, h6⟩, hN, hO, m1, m2, m3, m4⟩ := S
  refine ⟨⟨h1, h2, h3, h4, h5, fun j hj => ?_⟩, hN, hO, ?_, ?_, ?_, fun j hj => ?_⟩
  · obtain ⟨a, b, c⟩ := h6 j hj
    by_cases e : j = p
    · subst e; rw [pk_us]; exact ⟨hx, b, c⟩
    · rw [pk_un e]; exact ⟨a, b, c⟩
  · rw [pk_un (by omega)]; exact m1
  · rw [pk_un (by omega)]; exact m2
  · rw [pk_un (by omega)]; exact m3
  · obtain ⟨a, b, c, e, f⟩ := m4 j hj
    refine ⟨?_, by rw [pk_un (by omega)]; exact b, by rw [pk_un (by omega)]; exact c, by rw [pk_un (by omega)]; exact e, by rw [pk_un (by omega)]; exact f⟩
    by_cases e : j = p
    · subst e; rw [Nat.zero_add, pk_us, pk_us]
    · rw [pk_un (by omega), pk_un e]; exact a
theorem sn_S.setU {n o p : Nat} {N O V x : Int32} {Q U W st : Nat → Int32} (S : sn_S n o N O V Q U W st 0) (hp : p < n) (hx : x = 0 ∨ x = 1) : sn_S n o N O V Q (upd U p x) W (upd st (4 + 5 * p) x) 0 := by
  obtain ⟨⟨h1, h2, h3, h4, h5, h6⟩, hN, hO, m1, m2, m3, m4⟩ := S
  refine ⟨⟨h1, h2, h3, h4, h5, fun j hj => ?_⟩, hN, hO, ?_, ?_, ?_, fun j hj => ?_⟩
  · obtain ⟨a, b, c⟩ := h6 j hj
    by_cases e : j = p
    · subst e; rw [pk_us]; exact ⟨a, hx, c⟩
    · rw [pk_un e]; exact ⟨a, b, c⟩
  · rw [pk_un (by omega)]; exact m1
  · rw [pk_un (by omega)]; exact m2
  · rw [pk_un (by omega)]; exact m3
  · obtain ⟨a, b, c, e, f⟩ := m4 j hj
    refine ⟨by rw [pk_un (by omega)]; exact a, ?_, by rw [pk_un (by omega)]; exact c, by rw [pk_un (by omega)]; exact e, by rw [pk_un (by omega)]; exact f⟩
    by_cases e : j = p
    · subst e; rw [Nat.zero_add, pk_us, pk_us]
    · rw [pk_un (by omega), pk_un e]; exact b
theorem sn_S.setV {n o : Nat} {N O V x : Int32} {Q U W st : Nat → Int32} (S : sn_S n o N O V Q U W st 0) (hx : x = 0 ∨ x = 1) : sn_S n o N O x Q U W (upd st 2 x) 0 := by
  obtain ⟨⟨h1, h2, h3, h4, h5, h6⟩, hN, hO, m1, m2, m3, m4⟩ := S
  refine ⟨⟨h1, h2, h3, h4, hx, h6⟩, hN, hO, ?_, ?_, pk_us, fun j hj => ?_⟩
  · rw [pk_un (by omega)]; exact m1
  · rw [pk_un (by omega)]; exact m2
  · obtain ⟨a, b, c, e, f⟩ := m4 j hj
    exact ⟨by rw [pk_un (by omega)]; exact a, by rw [pk_un (by omega)]; exact b, by rw [pk_un (by omega)]; exact c, by rw [pk_un (by omega)]; exact e, by rw [pk_un (by omega)]; exact f⟩
theorem i_le_lt (x : Int32) (k : Nat) (h1 : 1 ≤ k) (hk : k < 2 ^ 31) : x ≤ nI k - 1 ↔ x < nI k := by
  rcases pk_ix x hk with h | h | ⟨j, hj, rfl⟩
  · obtain ⟨z, rfl⟩ : ∃ z, k = z + 1 := ⟨k - 1, by omega⟩
    rw [nI_pred]
    have a : (0 : Int32) ≤ nI z := nI_pos' (by omega)
    have b : (0 : Int32) ≤ nI (z + 1) := nI_pos' (by omega)
    exact ⟨fun _ => Int32.lt_of_lt_of_le h b, fun _ => Int32.le_of_lt (Int32.lt_of_lt_of_le h a)⟩
  · obtain ⟨z, rfl⟩ : ∃ z, k = z + 1 := ⟨k - 1, by omega⟩
    rw [nI_pred]
    exact ⟨fun q => absurd (Int32.le_trans h q) (nI_ge (by omega) hk), fun q => absurd q (Int32.not_lt.mpr h)⟩
  · obtain ⟨z, rfl⟩ : ∃ z, k = z + 1 := ⟨k - 1, by omega⟩
    rw [nI_pred, nI_leI (by omega) (by omega), nI_ltI (by omega) (by omega)]
    omega
theorem l_becomes {d n o : Nat} {tN : Int32} {tB : Nat → Int32} {pF pA pT pB dN dO dV dZ : Int32} {dQ dU dW : Nat → Int32} {sN sO sV sZ : Int32} {sQ sU sW : Nat → Int32} {rN : Int32} {rP rK rF rR rT rL rQ : Nat → Int32} {mS : Int32} {mT : Nat → Int64} {mK : Nat → Int32} {mF : Nat → Int64} {mG m1 m2 : Nat → Int32} {wN : Int32} {wF : Int64} {yN : Int32} {yF : Int64} {iK eN eO eV eZ : Int32} {eQ eU eW : Nat → Int32} {eS : Int32} {eB : Int64} {jK fN fO fV fZ : Int32} {fQ fU fW : Nat → Int32} {fS : Int32} {fB : Int64} {h0N h0L : Int32} {h0C : Nat → Int32} {h1N h1L : Int32} {h1C : Nat → Int32} {h2N h2L : Int32} {h2C : Nat → Int32} {h3N h3L : Int32} {h3C : Nat → Int32} {st draft kept isKept tape : Nat → Int32} {taped pos begun sort fault wrongAt : Int32} {rows places aheads : Nat → Int32} {readings isFound : Int32} {now at_ place rank : Nat → Int32} {nounBits verbBits inner table next : Nat → Int64} {powers : Nat → Int32} {things : Int32} {holding patterns : Nat → Int64} {seeded : Int32} {lanes sizes cells : Nat → Int32} {p0 p1 p2 : Int32} (S : sn_S n o sN sO sV sQ sU sW st 0) : ∃ (v sV' : Int32) (sQ' sU' mK' st' : Nat → Int32) (fnd : Int32), Go (d + 1) 62 0 [some (.ref 0), some (.int p0), some (.int p1), some (.int p2), none] [] (hX tN tB pF pA pT pB dN dO dV dZ dQ dU dW sN sO sV sZ sQ sU sW rN rP rK rF rR rT rL rQ mS mT mK mF mG m1 m2 wN wF yN yF iK eN eO eV eZ eQ eU eW eS eB jK fN fO fV fZ fQ fU fW fS fB h0N h0L h0C h1N h1L h1C h2N h2L h2C h3N h3L h3C) (some (.int v)) (hX tN tB pF pA pT pB dN dO dV dZ dQ dU dW sN sO sV' sZ sQ' sU' sW rN rP rK rF rR rT rL rQ mS mT mK' mF mG m1 m2 wN wF yN yF iK eN eO eV eZ eQ eU eW eS eB jK fN fO fV fZ fQ fU fW fS fB h0N h0L h0C h1N h1L h1C h2N h2L h2C h3N h3L h3C) ∧ Go (d + 2) 146 0 [some (.ref 0), some (.int p0), some (.int p1), some (.int p2), none, none] [] (hM st draft kept isKept tape taped pos begun sort fault wrongAt rows places aheads readings isFound now at_ place rank nounBits verbBits inner table next powers things holding patterns seeded lanes sizes cells) (some (.int v)) (hM st' draft kept isKept tape taped pos begun sort fault wrongAt rows places aheads readings fnd now at_ place rank nounBits verbBits inner table next powers things holding patterns seeded lanes sizes cells) ∧ sn_S n o sN sO sV' sQ' sU' sW st' 0 ∧ (∀ j, 23 ≤ j → st' j = st j) ∧ ((sV' = sV ∧ sQ' = sQ ∧ sU' = sU ∧ mK' = mK ∧ st' = st ∧ fnd = isFound) ∨ ((∀ r, r < 24 → mK' r = 0) ∧ fnd = 0)) := by
  have S0 := S
  obtain ⟨hok, zN, zO, mM⟩ := S
  have ⟨hn2, hn4, ho1, hon, _, _⟩ := hok
  have bad : Go (d + 1) 62 0 [some (.ref 0), some (.int p0), some (.int p1), some (.int p2), none] [] (hX tN tB pF pA pT pB dN dO dV dZ dQ dU dW sN sO sV sZ sQ sU sW rN rP rK rF rR rT rL rQ mS mT mK mF mG m1 m2 wN wF yN yF iK eN eO eV eZ eQ eU eW eS eB jK fN fO fV fZ fQ fU fW fS fB h0N h0L h0C h1N h1L h1C h2N h2L h2C h3N h3L h3C) (some (.int (-1))) (hX tN tB pF pA pT pB dN dO dV dZ dQ dU dW sN sO sV sZ sQ sU sW rN rP rK rF rR rT rL rQ mS mT mK mF mG m1 m2 wN wF yN yF iK eN eO eV eZ eQ eU eW eS eB jK fN fO fV fZ fQ fU fW fS fB h0N h0L h0C h1N h1L h1C h2N h2L h2C h3N h3L h3C) → Go (d + 2) 146 0 [some (.ref 0), some (.int p0), some (.int p1), some (.int p2), none, none] [] (hM st draft kept isKept tape taped pos begun sort fault wrongAt rows places aheads readings isFound now at_ place rank nounBits verbBits inner table next powers things holding patterns seeded lanes sizes cells) (some (.int (-1))) (hM st draft kept isKept tape taped pos begun sort fault wrongAt rows places aheads readings isFound now at_ place rank nounBits verbBits inner table next powers things holding patterns seeded lanes sizes cells) → ∃ (v sV' : Int32) (sQ' sU' mK' st' : Nat → Int32) (fnd : Int32), Go (d + 1) 62 0 [some (.ref 0), some (.int p0), some (.int p1), some (.int p2), none] [] (hX tN tB pF pA pT pB dN dO dV dZ dQ dU dW sN sO sV sZ sQ sU sW rN rP rK rF rR rT rL rQ mS mT mK mF mG m1 m2 wN wF yN yF iK eN eO eV eZ eQ eU eW eS eB jK fN fO fV fZ fQ fU fW fS fB h0N h0L h0C h1N h1L h1C h2N h2L h2C h3N h3L h3C) (some (.int v)) (hX tN tB pF pA pT pB dN dO dV dZ dQ dU dW sN sO sV' sZ sQ' sU' sW rN rP rK rF rR rT rL rQ mS mT mK' mF mG m1 m2 wN wF yN yF iK eN eO eV eZ eQ eU eW eS eB jK fN fO fV fZ fQ fU fW fS fB h0N h0L h0C h1N h1L h1C h2N h2L h2C h3N h3L h3C) ∧ Go (d + 2) 146 0 [some (.ref 0), some (.int p0), some (.int p1), some (.int p2), none, none] [] (hM st draft kept isKept tape taped pos begun sort fault wrongAt rows places aheads readings isFound now at_ place rank nounBits verbBits inner table next powers things holding patterns seeded lanes sizes cells) (some (.int v)) (hM st' draft kept isKept tape taped pos begun sort fault wrongAt rows places aheads readings fnd now at_ place rank nounBits verbBits inner table next powers things holding patterns seeded lanes sizes cells) ∧ sn_S n o sN sO sV' sQ' sU' sW st' 0 ∧ (∀ j, 23 ≤ j → st' j = st j) ∧ ((sV' = sV ∧ sQ' = sQ ∧ sU' = sU ∧ mK' = mK ∧ st' = st ∧ fnd = isFound) ∨ ((∀ r, r < 24 → mK' r = 0) ∧ fnd = 0)) := fun g1 g2 => ⟨-1, sV, sQ, sU, mK, st, isFound, g1, g2, S0, fun _ _ => rfl, Or.inl ⟨rfl, rfl, rfl, rfl, rfl, rfl⟩⟩
  rcases i_rng p1 (k := 3) (by decide) (by decide) with ⟨c1, c2⟩ | ⟨w, hw, rfl, c1, c2⟩
  · refine bad (b_X8_becomes_0 ⟨fun _ => ⟨rfl, rfl⟩, fun q => ⟨fun _ => ⟨rfl, rfl⟩, fun q2 => absurd ⟨Int32.not_lt.mp q, Int32.not_lt.mp q2⟩ c2⟩⟩) (b_X9_becomes_0 (nn c2 ⟨rfl, rfl⟩))
  have w1 : ¬ nI w < 0 := nI_pos (by omega)
  have w2 : ¬ (2 : Int32) < nI w := nI_nlt (a := 2) (b := w) (by omega) (by decide)
  by_cases hw0 : w = 0
  · subst hw0
    have z0 : nI 0 = 0 := rfl
    rcases i_rng p2 (k := 4) (by decide) (by decide) with ⟨e1, e2⟩ | ⟨x, hx, rfl, e1, e2⟩
    · refine bad (b_X8_becomes_0 (cn w1 (cn w2 ⟨fun _ => ⟨rfl, rfl⟩, fun q => ny z0 (cn (fun q2 => e1 ⟨Int32.not_lt.mp q, q2⟩) ⟨rfl, rfl⟩)⟩))) (b_X9_becomes_0 (ny c2 (ny z0 (nn e2 ⟨rfl, rfl⟩))))
    have x1 : ¬ nI x < 0 := nI_pos (by omega)
    rcases i_rng p0 (k := n) (by omega) (by omega) with ⟨a1, a2⟩ | ⟨p, hp, rfl, a1, a2⟩
    · rw [← zN] at a1
      rw [← mM.1] at a2
      refine bad (b_X8_becomes_0 (cn w1 (cn w2 (cn x1 (ny z0 (cy e1.2 (by exact ⟨fun q => absurd q (by decide), fun _ => cn a1 ⟨rfl, rfl⟩⟩))))))) (b_X9_becomes_0 (ny c2 (ny z0 (ny e2 (cn (by decide) (cn a2 ⟨rfl, rfl⟩))))))
    rw [← zN] at a1
    rw [← mM.1] at a2
    have s0 := (mM.2.2.2 p hp).1
    rw [Nat.zero_add] at s0
    have ei : ((3 : Int32) + (5 : Int32) * nI p) + nI 0 = nI (3 + 5 * p) := by
      show (nI 3 + nI 5 * nI p) + nI 0 = _
      rw [pk_mul, nI_add, nI_add, Nat.add_zero]
    obtain ⟨mK', f1, f2⟩ := x_forget (d := d) (tN := tN) (tB := tB) (pF := pF) (pA := pA) (pT := pT) (pB := pB) (dN := dN) (dO := dO) (dV := dV) (dZ := dZ) (dQ := dQ) (dU := dU) (dW := dW) (sN := sN) (sO := sO) (sV := sV) (sZ := sZ) (sQ := (upd sQ p (nI x))) (sU := sU) (sW := sW) (rN := rN) (rP := rP) (rK := rK) (rF := rF) (rR := rR) (rT := rT) (rL := rL) (rQ := rQ) (mS := mS) (mT := mT) (mK := mK) (mF := mF) (mG := mG) (m1 := m1) (m2 := m2) (wN := wN) (wF := wF) (yN := yN) (yF := yF) (iK := iK) (eN := eN) (eO := eO) (eV := eV) (eZ := eZ) (eQ := eQ) (eU := eU) (eW := eW) (eS := eS) (eB := eB) (jK := jK) (fN := fN) (fO := fO) (fV := fV) (fZ := fZ) (fQ := fQ) (fU := fU) (fW := fW) (fS := fS) (fB := fB) (h0N := h0N) (h0L := h0L) (h0C := h0C) (h1N := h1N) (h1L := h1L) (h1C := h1C) (h2N := h2N) (h2L := h2L) (h2C := h2C) (h3N := h3N) (h3L := h3L) (h3C := h3C)
    refine ⟨sQ p, sV, upd sQ p (nI x), sU, mK', upd st (3 + 5 * p) (nI x), 0, b_X8_becomes_0 (cn w1 (cn w2 (cn x1 (ny z0 (cy e1.2 ⟨fun q => absurd q (by decide), fun _ => cy a1 (ny z0 ⟨p, rfl, by omega, p, rfl, by omega, mK', f2, rfl, rfl⟩)⟩))))), b_X9_becomes_0 (ny c2 (ny z0 (ny e2 (cn (by decide) (cy a2 (b_X9_becomes_47 (nn (by decide) ⟨_, ei, by omega, _, ei, by omega, by rw [s0], rfl⟩))))))), S0.setQ hp ?_, fun j hj => pk_un (by omega), Or.inr ⟨f1, rfl⟩⟩
    have : x = 0 ∨ x = 1 ∨ x = 2 ∨ x = 3 := by omega
    rcases this with rfl | rfl | rfl | rfl <;> decide
  have z0 : ¬ nI w = 0 := nI_ne0 (by omega) (by omega)
  rcases i_rng p2 (k := 2) (by decide) (by decide) with ⟨e1, e2⟩ | ⟨x, hx, rfl, e1, e2⟩
  · refine bad (b_X8_becomes_0 (cn w1 (cn w2 ⟨fun _ => ⟨rfl, rfl⟩, fun q => nn z0 (cn (fun q2 => e1 ⟨Int32.not_lt.mp q, q2⟩) ⟨rfl, rfl⟩)⟩))) (b_X9_becomes_0 (ny c2 (nn z0 (nn e2 ⟨rfl, rfl⟩))))
  have x1 : ¬ nI x < 0 := nI_pos (by omega)
  have hx01 : nI x = 0 ∨ nI x = 1 := by
    have : x = 0 ∨ x = 1 := by omega
    rcases this with rfl | rfl <;> decide
  by_cases hw1 : w = 1
  · subst hw1
    have z2 : ¬ nI 1 = 2 := by decide
    rcases i_rng p0 (k := n) (by omega) (by omega) with ⟨a1, a2⟩ | ⟨p, hp, rfl, a1, a2⟩
    · rw [← zN] at a1
      rw [← mM.1] at a2
      refine bad (b_X8_becomes_0 (cn w1 (cn w2 (cn x1 (nn z0 (cy e1.2 (cn z2 (cn a1 ⟨rfl, rfl⟩)))))))) (b_X9_becomes_0 (ny c2 (nn z0 (ny e2 (cn (by decide) (cn a2 ⟨rfl, rfl⟩))))))
    rw [← zN] at a1
    rw [← mM.1] at a2
    have s0 := (mM.2.2.2 p hp).2.1
    rw [Nat.zero_add] at s0
    have ei : ((3 : Int32) + (5 : Int32) * nI p) + nI 1 = nI (4 + 5 * p) := by
      show (nI 3 + nI 5 * nI p) + nI 1 = _
      rw [pk_mul, nI_add, nI_add]
      congr 1; omega
    obtain ⟨mK', f1, f2⟩ := x_forget (d := d) (tN := tN) (tB := tB) (pF := pF) (pA := pA) (pT := pT) (pB := pB) (dN := dN) (dO := dO) (dV := dV) (dZ := dZ) (dQ := dQ) (dU := dU) (dW := dW) (sN := sN) (sO := sO) (sV := sV) (sZ := sZ) (sQ := sQ) (sU := (upd sU p (nI x))) (sW := sW) (rN := rN) (rP := rP) (rK := rK) (rF := rF) (rR := rR) (rT := rT) (rL := rL) (rQ := rQ) (mS := mS) (mT := mT) (mK := mK) (mF := mF) (mG := mG) (m1 := m1) (m2 := m2) (wN := wN) (wF := wF) (yN := yN) (yF := yF) (iK := iK) (eN := eN) (eO := eO) (eV := eV) (eZ := eZ) (eQ := eQ) (eU := eU) (eW := eW) (eS := eS) (eB := eB) (jK := jK) (fN := fN) (fO := fO) (fV := fV) (fZ := fZ) (fQ := fQ) (fU := fU) (fW := fW) (fS := fS) (fB := fB) (h0N := h0N) (h0L := h0L) (h0C := h0C) (h1N := h1N) (h1L := h1L) (h1C := h1C) (h2N := h2N) (h2L := h2L) (h2C := h2C) (h3N := h3N) (h3L := h3L) (h3C := h3C)
    exact ⟨sU p, sV, sQ, upd sU p (nI x), mK', upd st (4 + 5 * p) (nI x), 0, b_X8_becomes_0 (cn w1 (cn w2 (cn x1 (nn z0 (cy e1.2 (cn z2 (cy a1 (nn z0 (ny rfl ⟨p, rfl, by omega, p, rfl, by omega, mK', f2, rfl, rfl⟩))))))))), b_X9_becomes_0 (ny c2 (nn z0 (ny e2 (cn (by decide) (cy a2 (b_X9_becomes_47 (nn z2 ⟨_, ei, by omega, _, ei, by omega, by rw [s0], rfl⟩))))))), S0.setU hp hx01, fun j hj => pk_un (by omega), Or.inr ⟨f1, rfl⟩⟩
  · have : w = 2 := by omega
    subst this
    obtain ⟨mK', f1, f2⟩ := x_forget (d := d) (tN := tN) (tB := tB) (pF := pF) (pA := pA) (pT := pT) (pB := pB) (dN := dN) (dO := dO) (dV := dV) (dZ := dZ) (dQ := dQ) (dU := dU) (dW := dW) (sN := sN) (sO := sO) (sV := (nI x)) (sZ := sZ) (sQ := sQ) (sU := sU) (sW := sW) (rN := rN) (rP := rP) (rK := rK) (rF := rF) (rR := rR) (rT := rT) (rL := rL) (rQ := rQ) (mS := mS) (mT := mT) (mK := mK) (mF := mF) (mG := mG) (m1 := m1) (m2 := m2) (wN := wN) (wF := wF) (yN := yN) (yF := yF) (iK := iK) (eN := eN) (eO := eO) (eV := eV) (eZ := eZ) (eQ := eQ) (eU := eU) (eW := eW) (eS := eS) (eB := eB) (jK := jK) (fN := fN) (fO := fO) (fV := fV) (fZ := fZ) (fQ := fQ) (fU := fU) (fW := fW) (fS := fS) (fB := fB) (h0N := h0N) (h0L := h0L) (h0C := h0C) (h1N := h1N) (h1L := h1L) (h1C := h1C) (h2N := h2N) (h2L := h2L) (h2C := h2C) (h3N := h3N) (h3L := h3L) (h3C := h3C)
    exact ⟨sV, nI x, sQ, sU, mK', upd st 2 (nI x), 0, b_X8_becomes_0 (cn w1 (cn w2 (cn x1 (nn z0 (cy e1.2 (cy rfl (nn z0 (nn (by decide) ⟨mK', f2, rfl, rfl⟩)))))))), b_X9_becomes_0 (ny c2 (nn z0 (ny e2 (cy (by decide) (b_X9_becomes_47 (ny rfl ⟨by rw [← mM.2.2.1], rfl⟩)))))), S0.setV hx01, fun j hj => pk_un (by omega), Or.inr ⟨f1, rfl⟩⟩
