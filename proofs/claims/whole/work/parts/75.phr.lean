/-! the text: phrases, both sides alike -/
theorem dr_es {B c : Nat} {st : Nat → Int32} {x0 x1 x2 : Int32} (hB : B ≤ c) (hx : x2 = (if c = B then -4 else nI (c - 1))) : (c = B → upd (upd (upd (upd st (3 + 5 * c) x0) (4 + 5 * c) x1) (5 + 5 * c) x2) 0 (nI (c + 1)) = dr_st B c st x0 x1) ∧ (c ≠ B → upd (upd (upd (upd (upd st (3 + 5 * c) x0) (4 + 5 * c) x1) (5 + 5 * c) x2) (7 + 5 * (c - 1)) (nI c)) 0 (nI (c + 1)) = dr_st B c st x0 x1) := by
  refine ⟨fun e => ?_, fun e => ?_⟩
  · funext j
    unfold dr_st upd
    rw [hx]
    by_cases j0 : j = 0
    · rw [if_pos j0, if_pos j0]
    · rw [if_neg j0, if_neg j0]
      by_cases j3 : j = 5 + 5 * c
      · rw [if_pos j3, if_neg (show ¬ j = 3 + 5 * c by omega), if_neg (show ¬ j = 4 + 5 * c by omega), if_pos j3]
      · rw [if_neg j3]
        by_cases j2 : j = 4 + 5 * c
        · rw [if_pos j2, if_neg (show ¬ j = 3 + 5 * c by omega), if_pos j2]
        · rw [if_neg j2]
          by_cases j1 : j = 3 + 5 * c
          · rw [if_pos j1, if_pos j1]
          · rw [if_neg j1, if_neg j1, if_neg j2, if_neg j3, if_neg (fun z => z.1 e)]
  · funext j
    unfold dr_st upd
    rw [hx]
    by_cases j0 : j = 0
    · rw [if_pos j0, if_pos j0]
    · rw [if_neg j0, if_neg j0]
      by_cases j4 : j = 7 + 5 * (c - 1)
      · rw [if_pos j4, if_neg (show ¬ j = 3 + 5 * c by omega), if_neg (show ¬ j = 4 + 5 * c by omega), if_neg (show ¬ j = 5 + 5 * c by omega), if_pos ⟨e, by omega⟩]
      · rw [if_neg j4]
        by_cases j3 : j = 5 + 5 * c
        · rw [if_pos j3, if_neg (show ¬ j = 3 + 5 * c by omega), if_neg (show ¬ j = 4 + 5 * c by omega), if_pos j3]
        · rw [if_neg j3]
          by_cases j2 : j = 4 + 5 * c
          · rw [if_pos j2, if_neg (show ¬ j = 3 + 5 * c by omega), if_pos j2]
          · rw [if_neg j2]
            by_cases j1 : j = 3 + 5 * c
            · rw [if_pos j1, if_pos j1]
            · rw [if_neg j1, if_neg j1, if_neg j2, if_neg j3, if_neg (fun z => by omega)]
theorem k_rng {k a b : Nat} (hk : k < 100) (hab : a + b < 100) : ((nI a ≤ nI k ∧ nI k < nI a + nI b) ↔ (a ≤ k ∧ k < a + b)) := by
  rw [nI_add, nI_leI (by omega) (by omega), nI_ltI (by omega) (by omega)]
theorem x_refuse {d k : Nat} (hk : k < 32) {tN : Int32} {tB : Nat → Int32} {pF pA pT pB dN dO dV dZ : Int32} {dQ dU dW : Nat → Int32} {sN sO sV sZ : Int32} {sQ sU sW : Nat → Int32} {rN : Int32} {rP rK rF rR rT rL rQ : Nat → Int32} {mS : Int32} {mT : Nat → Int64} {mK : Nat → Int32} {mF : Nat → Int64} {mG m1 m2 : Nat → Int32} {wN : Int32} {wF : Int64} {yN : Int32} {yF : Int64} {iK eN eO eV eZ : Int32} {eQ eU eW : Nat → Int32} {eS : Int32} {eB : Int64} {jK fN fO fV fZ : Int32} {fQ fU fW : Nat → Int32} {fS : Int32} {fB : Int64} {h0N h0L : Int32} {h0C : Nat → Int32} {h1N h1L : Int32} {h1C : Nat → Int32} {h2N h2L : Int32} {h2C : Nat → Int32} {h3N h3L : Int32} {h3C : Nat → Int32} (hT : pT = nI k) : Go d 18 0 [some (.ref 3)] [] (hX tN tB pF pA pT pB dN dO dV dZ dQ dU dW sN sO sV sZ sQ sU sW rN rP rK rF rR rT rL rQ mS mT mK mF mG m1 m2 wN wF yN yF iK eN eO eV eZ eQ eU eW eS eB jK fN fO fV fZ fQ fU fW fS fB h0N h0L h0C h1N h1L h1C h2N h2L h2C h3N h3L h3C) (some (.int (0 : Int32))) (hX tN tB (nI (if k = 1 then 1 else 2)) pA pT pB dN dO dV dZ dQ dU dW sN sO sV sZ sQ sU sW rN rP rK rF rR rT rL rQ mS mT mK mF mG m1 m2 wN wF yN yF iK eN eO eV eZ eQ eU eW eS eB jK fN fO fV fZ fQ fU fW fS fB h0N h0L h0C h1N h1L h1C h2N h2L h2C h3N h3L h3C) := by
  by_cases h : k = 1
  · rw [if_pos h]
    exact b_X2_refuse_0 (ny (by rw [hT, h]; rfl) ⟨rfl, rfl⟩)
  · rw [if_neg h]
    exact b_X2_refuse_0 (nn (by rw [hT]; exact fun z => h ((nI_eq (b := 1) (by omega) (by decide)).mp z)) ⟨rfl, rfl⟩)
theorem m_req1 {d : Nat} {x c : Int32} {st draft kept isKept tape : Nat → Int32} {taped pos begun sort fault wrongAt : Int32} {rows places aheads : Nat → Int32} {readings isFound : Int32} {now at_ place rank : Nat → Int32} {nounBits verbBits inner table next : Nat → Int64} {powers : Nat → Int32} {things : Int32} {holding patterns : Nat → Int64} {seeded : Int32} {lanes sizes cells : Nat → Int32} (hx : ¬ x = 0) : Go d 107 0 [some (.ref 0), some (.int x), some (.int c)] [] (hM st draft kept isKept tape taped pos begun sort fault wrongAt rows places aheads readings isFound now at_ place rank nounBits verbBits inner table next powers things holding patterns seeded lanes sizes cells) none (hM st draft kept isKept tape taped pos begun sort fault wrongAt rows places aheads readings isFound now at_ place rank nounBits verbBits inner table next powers things holding patterns seeded lanes sizes cells) := b_X9_requires_0 (nn hx ⟨rfl, rfl⟩)
theorem m_req0 {d : Nat} {x c : Int32} {st draft kept isKept tape : Nat → Int32} {taped pos begun sort fault wrongAt : Int32} {rows places aheads : Nat → Int32} {readings isFound : Int32} {now at_ place rank : Nat → Int32} {nounBits verbBits inner table next : Nat → Int64} {powers : Nat → Int32} {things : Int32} {holding patterns : Nat → Int64} {seeded : Int32} {lanes sizes cells : Nat → Int32} (hx : x = 0) (hf : fault = 0) : Go d 107 0 [some (.ref 0), some (.int x), some (.int c)] [] (hM st draft kept isKept tape taped pos begun sort fault wrongAt rows places aheads readings isFound now at_ place rank nounBits verbBits inner table next powers things holding patterns seeded lanes sizes cells) none (hM st draft kept isKept tape taped pos begun sort c begun rows places aheads readings isFound now at_ place rank nounBits verbBits inner table next powers things holding patterns seeded lanes sizes cells) := b_X9_requires_0 (ny hx (ny hf ⟨rfl, rfl⟩))
theorem m_reqf {d : Nat} {x c : Int32} {st draft kept isKept tape : Nat → Int32} {taped pos begun sort fault wrongAt : Int32} {rows places aheads : Nat → Int32} {readings isFound : Int32} {now at_ place rank : Nat → Int32} {nounBits verbBits inner table next : Nat → Int64} {powers : Nat → Int32} {things : Int32} {holding patterns : Nat → Int64} {seeded : Int32} {lanes sizes cells : Nat → Int32} (hf : ¬ fault = 0) : Go d 107 0 [some (.ref 0), some (.int x), some (.int c)] [] (hM st draft kept isKept tape taped pos begun sort fault wrongAt rows places aheads readings isFound now at_ place rank nounBits verbBits inner table next powers things holding patterns seeded lanes sizes cells) none (hM st draft kept isKept tape taped pos begun sort fault wrongAt rows places aheads readings isFound now at_ place rank nounBits verbBits inner table next powers things holding patterns seeded lanes sizes cells) := by
  by_cases hx : x = 0
  · exact b_X9_requires_0 (ny hx (nn hf ⟨rfl, rfl⟩))
  · exact b_X9_requires_0 (nn hx ⟨rfl, rfl⟩)
set_option maxRecDepth 100000 in
set_option maxHeartbeats 4000000 in
theorem j_phr {d T B : Nat} {t : Nat → Nat} (hT : T ≤ 200) : ∀ (m c k q e : Nat) {tN : Int32} {tB : Nat → Int32} {pF pA pT pB dN dO dV dZ : Int32} {dQ dU dW : Nat → Int32} {sN sO sV sZ : Int32} {sQ sU sW : Nat → Int32} {rN : Int32} {rP rK rF rR rT rL rQ : Nat → Int32} {mS : Int32} {mT : Nat → Int64} {mK : Nat → Int32} {mF : Nat → Int64} {mG m1 m2 : Nat → Int32} {wN : Int32} {wF : Int64} {yN : Int32} {yF : Int64} {iK eN eO eV eZ : Int32} {eQ eU eW : Nat → Int32} {eS : Int32} {eB : Int64} {jK fN fO fV fZ : Int32} {fQ fU fW : Nat → Int32} {fS : Int32} {fB : Int64} {h0N h0L : Int32} {h0C : Nat → Int32} {h1N h1L : Int32} {h1C : Nat → Int32} {h2N h2L : Int32} {h2C : Nat → Int32} {h3N h3L : Int32} {h3C : Nat → Int32} {st draft kept isKept tape : Nat → Int32} {taped pos begun sort fault wrongAt : Int32} {rows places aheads : Nat → Int32} {readings isFound : Int32} {now at_ place rank : Nat → Int32} {nounBits verbBits inner table next : Nat → Int64} {powers : Nat → Int32} {things : Int32} {holding patterns : Nat → Int64} {seeded : Int32} {lanes sizes cells : Nat → Int32}, tp_R t T tN tB taped tape → c + m = 5 → 1 ≤ m → B ≤ c → k < 32 → dr_H B c dQ dU dW draft → dN = nI c → draft 0 = nI c → pA = nI q → pT = nI k → pB = nI e → syn t T k q e pos begun sort fault → ∃ (r pF1 pA1 pT1 pB1 dN1 : Int32) (dQ1 dU1 dW1 : Nat → Int32) (draft1 : Nat → Int32) (pos1 begun1 sort1 fault1 wrongAt1 : Int32), Go (d + 5) 16 2 [some (.ref 3), some (.ref 1), some (.int (nI (c - B))), none] [] (hX tN tB pF pA pT pB dN dO dV dZ dQ dU dW sN sO sV sZ sQ sU sW rN rP rK rF rR rT rL rQ mS mT mK mF mG m1 m2 wN wF yN yF iK eN eO eV eZ eQ eU eW eS eB jK fN fO fV fZ fQ fU fW fS fB h0N h0L h0C h1N h1L h1C h2N h2L h2C h3N h3L h3C) (some (.int r)) (hX tN tB pF1 pA1 pT1 pB1 dN1 dO dV dZ dQ1 dU1 dW1 sN sO sV sZ sQ sU sW rN rP rK rF rR rT rL rQ mS mT mK mF mG m1 m2 wN wF yN yF iK eN eO eV eZ eQ eU eW eS eB jK fN fO fV fZ fQ fU fW fS fB h0N h0L h0C h1N h1L h1C h2N h2L h2C h3N h3L h3C) ∧ Go (d + 3) 116 16 [some (.ref 0), some (.int (if c = B then -4 else nI (c - 1))), some (.int (1 : Int32)), none, none, none, none] [] (hM st draft kept isKept tape taped pos begun sort fault wrongAt rows places aheads readings isFound now at_ place rank nounBits verbBits inner table next powers things holding patterns seeded lanes sizes cells) none (hM st draft1 kept isKept tape taped pos1 begun1 sort1 fault1 wrongAt1 rows places aheads readings isFound now at_ place rank nounBits verbBits inner table next powers things holding patterns seeded lanes sizes cells) ∧ ((r = 0 ∧ ∃ f q', 1 ≤ f ∧ f ≤ 3 ∧ pF1 = nI f ∧ pA1 = nI q' ∧ fault1 = nI f ∧ wrongAt1 = nI q') ∨ (r = 1 ∧ pF1 = pF ∧ ∃ c' k' q' e', B < c' ∧ c' ≤ 4 ∧ k' < 32 ∧ pA1 = nI q' ∧ pT1 = nI k' ∧ pB1 = nI e' ∧ syn t T k' q' e' pos1 begun1 sort1 fault1 ∧ dN1 = nI c' ∧ draft1 0 = nI c' ∧ dr_D B c' dQ1 dU1 dW1 draft1 ∧ dr_F B dQ dU dW draft dQ1 dU1 dW1 draft1) ∨ (r = 1 ∧ pF1 = pF ∧ pT1 = nI 1 ∧ ∃ q', pA1 = nI q' ∧ fault1 = nI 1 ∧ wrongAt1 = nI q'))
  | 0, c, k, q, e, tN, tB, pF, pA, pT, pB, dN, dO, dV, dZ, dQ, dU, dW, sN, sO, sV, sZ, sQ, sU, sW, rN, rP, rK, rF, rR, rT, rL, rQ, mS, mT, mK, mF, mG, m1, m2, wN, wF, yN, yF, iK, eN, eO, eV, eZ, eQ, eU, eW, eS, eB, jK, fN, fO, fV, fZ, fQ, fU, fW, fS, fB, h0N, h0L, h0C, h1N, h1L, h1C, h2N, h2L, h2C, h3N, h3L, h3C, st, draft, kept, isKept, tape, taped, pos, begun, sort, fault, wrongAt, rows, places, aheads, readings, isFound, now, at_, place, rank, nounBits, verbBits, inner, table, next, powers, things, holding, patterns, seeded, lanes, sizes, cells, R, hc, hm, hB, hk, H, hN, h0, hA, hK, hE, hs => by omega
  | m + 1, c, k, q, e, tN, tB, pF, pA, pT, pB, dN, dO, dV, dZ, dQ, dU, dW, sN, sO, sV, sZ, sQ, sU, sW, rN, rP, rK, rF, rR, rT, rL, rQ, mS, mT, mK, mF, mG, m1, m2, wN, wF, yN, yF, iK, eN, eO, eV, eZ, eQ, eU, eW, eS, eB, jK, fN, fO, fV, fZ, fQ, fU, fW, fS, fB, h0N, h0L, h0C, h1N, h1L, h1C, h2N, h2L, h2C, h3N, h3L, h3C, st, draft, kept, isKept, tape, taped, pos, begun, sort, fault, wrongAt, rows, places, aheads, readings, isFound, now, at_, place, rank, nounBits, verbBits, inner, table, next, powers, things, holding, patterns, seeded, lanes, sizes, cells, R, hc, hm, hB, hk, H, hN, h0, hA, hK, hE, hs => by
    have f0 := hs.1
    subst f0 hA hK hE
    obtain ⟨_, rt1, rt2, rt3⟩ := R
    have R0 : tp_R t T tN tB taped tape := ⟨hT, rt1, rt2, rt3⟩
    have x2 : ∀ j, j < T → tB j = nI (t j) ∧ t j < 128 := fun j hj => ⟨(rt3 j hj).1, (rt3 j hj).2.2⟩
    have y2 : ∀ j, j < T → tape j = nI (t j) ∧ t j < 128 := fun j hj => ⟨(rt3 j hj).2.1, (rt3 j hj).2.2⟩
    have hi : ¬ (4 : Int32) < nI (c - B) := nI_nlt (a := 4) (b := c - B) (by omega) (by omega)
    have gq := m_quantK (d := d) hT (st := st) (draft := draft) (kept := kept) (isKept := isKept) (tape := tape) (taped := taped) (pos := pos) (begun := begun) (sort := sort) (fault := (0 : Int32)) (wrongAt := wrongAt) (rows := rows) (places := places) (aheads := aheads) (readings := readings) (isFound := isFound) (now := now) (at_ := at_) (place := place) (rank := rank) (nounBits := nounBits) (verbBits := verbBits) (inner := inner) (table := table) (next := next) (powers := powers) (things := things) (holding := holding) (patterns := patterns) (seeded := seeded) (lanes := lanes) (sizes := sizes) (cells := cells) rt2 y2 hs
    have hk10 := k_rng (k := k) (a := 10) (b := 4) (by omega) (by decide)
    have mEnd : ∀ (f : Nat) (x1 x3 s0 po be so wr : Int32) (dr : Nat → Int32), 1 ≤ f → f ≤ 3 → Go (d + 3) 116 84 [some (.ref 0), some (.int x1), none, some (.int x3), none, none, none] [.int s0] (hM st dr kept isKept tape taped po be so (nI f) wr rows places aheads readings isFound now at_ place rank nounBits verbBits inner table next powers things holding patterns seeded lanes sizes cells) none (hM st dr kept isKept tape taped po be so (nI f) wr rows places aheads readings isFound now at_ place rank nounBits verbBits inner table next powers things holding patterns seeded lanes sizes cells) := fun f x1 x3 s0 po be so wr dr h1 h2 => b_X9_readPhrases_84 (nn (nI_ne0 (by omega) (by omega)) (b_X9_readPhrases_16 (cy rfl ⟨rfl, rfl⟩)))
    by_cases hq : 10 ≤ k ∧ k < 14
    · have qv : qn k = nI (k - 10) := if_pos hq
      have qv4 : ¬ qn k = -4 := by rw [qv]; exact nI_n4 _ (by omega)
      have g2 : Go (d + 2) 107 0 [some (.ref 0), some (.int (if ¬ qn k = -4 then (1 : Int32) else 0)), some (.int (2 : Int32))] [] (hM st draft kept isKept tape taped pos begun sort (0 : Int32) wrongAt rows places aheads readings isFound now at_ place rank nounBits verbBits inner table next powers things holding patterns seeded lanes sizes cells) none (hM st draft kept isKept tape taped pos begun sort (0 : Int32) wrongAt rows places aheads readings isFound now at_ place rank nounBits verbBits inner table next powers things holding patterns seeded lanes sizes cells) := m_req1 (by rw [if_pos qv4]; decide)
      by_cases h4 : c = 4
      · subst h4
        have g3 : Go (d + 2) 107 0 [some (.ref 0), some (.int (if ¬ (4 : Int32) ≤ draft 0 then (1 : Int32) else 0)), some (.int (3 : Int32))] [] (hM st draft kept isKept tape taped pos begun sort (0 : Int32) wrongAt rows places aheads readings isFound now at_ place rank nounBits verbBits inner table next powers things holding patterns seeded lanes sizes cells) none (hM st draft kept isKept tape taped pos begun sort (3 : Int32) begun rows places aheads readings isFound now at_ place rank nounBits verbBits inner table next powers things holding patterns seeded lanes sizes cells) := m_req0 (by rw [if_neg (fun z => z (by rw [h0]; decide))]) rfl
        have g4 := m_reads_f (d := d + 1) (f := 3) (st := st) (draft := draft) (kept := kept) (isKept := isKept) (tape := tape) (taped := taped) (pos := pos) (begun := begun) (sort := sort) (fault := (3 : Int32)) (wrongAt := begun) (rows := rows) (places := places) (aheads := aheads) (readings := readings) (isFound := isFound) (now := now) (at_ := at_) (place := place) (rank := rank) (nounBits := nounBits) (verbBits := verbBits) (inner := inner) (table := table) (next := next) (powers := powers) (things := things) (holding := holding) (patterns := patterns) (seeded := seeded) (lanes := lanes) (sizes := sizes) (cells := cells) rfl (by decide) (by decide)
        exact ⟨0, 3, nI q, nI k, nI e, dN, dQ, dU, dW, draft, pos, begun, sort, 3, begun, b_X2_takePhrases_2 (cn hi (cy (hk10.mpr hq) (cn (by rw [hN]; decide) ⟨rfl, rfl⟩))), b_X9_readPhrases_16 (cn (by decide) ⟨_, gq, _, _, g2, _, _, g3, _, _, _, _, _, g4, nn (by decide) (mEnd 3 _ _ _ _ _ _ _ _ (by decide) (by decide))⟩), Or.inl ⟨rfl, 3, q, by decide, by decide, rfl, rfl, rfl, hs.2.1⟩⟩
      · have hc4 : c < 4 := by omega
        have g3 : Go (d + 2) 107 0 [some (.ref 0), some (.int (if ¬ (4 : Int32) ≤ draft 0 then (1 : Int32) else 0)), some (.int (3 : Int32))] [] (hM st draft kept isKept tape taped pos begun sort (0 : Int32) wrongAt rows places aheads readings isFound now at_ place rank nounBits verbBits inner table next powers things holding patterns seeded lanes sizes cells) none (hM st draft kept isKept tape taped pos begun sort (0 : Int32) wrongAt rows places aheads readings isFound now at_ place rank nounBits verbBits inner table next powers things holding patterns seeded lanes sizes cells) := m_req1 (by rw [if_pos (show ¬ (4 : Int32) ≤ draft 0 by rw [h0]; exact nI_ge (a := c) (b := 4) hc4 (by decide))]; decide)
        have hNlt : dN < 4 := by rw [hN]; exact nI_lt (a := c) (b := 4) hc4 (by decide)
        have xr1 := x_readToken (d := d) (t := t) hT (tN := tN) (tB := tB) (pF := pF) (pA := (nI q)) (pT := (nI k)) (pB := (nI e)) (dN := dN) (dO := dO) (dV := dV) (dZ := dZ) (dQ := dQ) (dU := dU) (dW := dW) (sN := sN) (sO := sO) (sV := sV) (sZ := sZ) (sQ := sQ) (sU := sU) (sW := sW) (rN := rN) (rP := rP) (rK := rK) (rF := rF) (rR := rR) (rT := rT) (rL := rL) (rQ := rQ) (mS := mS) (mT := mT) (mK := mK) (mF := mF) (mG := mG) (m1 := m1) (m2 := m2) (wN := wN) (wF := wF) (yN := yN) (yF := yF) (iK := iK) (eN := eN) (eO := eO) (eV := eV) (eZ := eZ) (eQ := eQ) (eU := eU) (eW := eW) (eS := eS) (eB := eB) (jK := jK) (fN := fN) (fO := fO) (fV := fV) (fZ := fZ) (fQ := fQ) (fU := fU) (fW := fW) (fS := fS) (fB := fB) (h0N := h0N) (h0L := h0L) (h0C := h0C) (h1N := h1N) (h1L := h1L) (h1C := h1C) (h2N := h2N) (h2L := h2L) (h2C := h2C) (h3N := h3N) (h3L := h3L) (h3C := h3C) rt1 x2 hs.2.2.2.2.1 rfl
        obtain ⟨po1, be1, so1, fa1, wr1, mr1, ms1⟩ := m_reads (d := d + 1) (t := t) hT (st := st) (draft := draft) (kept := kept) (isKept := isKept) (tape := tape) (taped := taped) (pos := pos) (begun := begun) (sort := sort) (fault := (0 : Int32)) (wrongAt := wrongAt) (rows := rows) (places := places) (aheads := aheads) (readings := readings) (isFound := isFound) (now := now) (at_ := at_) (place := place) (rank := rank) (nounBits := nounBits) (verbBits := verbBits) (inner := inner) (table := table) (next := next) (powers := powers) (things := things) (holding := holding) (patterns := patterns) (seeded := seeded) (lanes := lanes) (sizes := sizes) (cells := cells) rt2 y2 hs.2.2.2.2.1 hs.2.2.1 rfl
        obtain ⟨tb1, tb2, tb3⟩ := tok_b (t := t) hs.2.2.2.2.1
        generalize hk1 : (tok t T e).1 = k1 at xr1 ms1 tb1 tb3
        generalize hq1 : (tok t T e).2.1 = q1 at xr1 ms1 tb2
        generalize he1 : (tok t T e).2.2 = e1 at xr1 ms1 tb3
        have hk20 := k_rng (k := k1) (a := 20) (b := 2) (by omega) (by decide)
        rcases ms1 with ms1 | ⟨mk, mf, mw⟩
        · have fz := ms1.1
          subst fz
          have gn := m_nounK (d := d) hT (st := st) (draft := draft) (kept := kept) (isKept := isKept) (tape := tape) (taped := taped) (pos := po1) (begun := be1) (sort := so1) (fault := (0 : Int32)) (wrongAt := wr1) (rows := rows) (places := places) (aheads := aheads) (readings := readings) (isFound := isFound) (now := now) (at_ := at_) (place := place) (rank := rank) (nounBits := nounBits) (verbBits := verbBits) (inner := inner) (table := table) (next := next) (powers := powers) (things := things) (holding := holding) (patterns := patterns) (seeded := seeded) (lanes := lanes) (sizes := sizes) (cells := cells) rt2 y2 ms1
          obtain ⟨r2, po2, be2, so2, fa2, wr2, mt2, mo2⟩ := m_taken (d := d) (x := un_n k1) hT (st := st) (draft := draft) (kept := kept) (isKept := isKept) (tape := tape) (taped := taped) (pos := po1) (begun := be1) (sort := so1) (fault := (0 : Int32)) (wrongAt := wr1) (rows := rows) (places := places) (aheads := aheads) (readings := readings) (isFound := isFound) (now := now) (at_ := at_) (place := place) (rank := rank) (nounBits := nounBits) (verbBits := verbBits) (inner := inner) (table := table) (next := next) (powers := powers) (things := things) (holding := holding) (patterns := patterns) (seeded := seeded) (lanes := lanes) (sizes := sizes) (cells := cells) rt2 y2 ms1
          by_cases hn : 20 ≤ k1 ∧ k1 < 22
          · have nv : un_n k1 = nI (k1 - 20) := if_pos hn
            have nv4 : ¬ un_n k1 = -4 := by rw [nv]; exact nI_n4 _ (by omega)
            have eX1 : nI k - (10 : Int32) = nI (k - 10) := pk_sub (a := k) (b := 10) hq.1
            have eX2 : nI k1 - (20 : Int32) = nI (k1 - 20) := pk_sub (a := k1) (b := 20) hn.1
            have hq4 : nI (k - 10) = 0 ∨ nI (k - 10) = 1 ∨ nI (k - 10) = 2 ∨ nI (k - 10) = 3 := by
              have : k - 10 = 0 ∨ k - 10 = 1 ∨ k - 10 = 2 ∨ k - 10 = 3 := by omega
              rcases this with h | h | h | h <;> rw [h] <;> decide
            have hu2 : nI (k1 - 20) = 0 ∨ nI (k1 - 20) = 1 := by
              have : k1 - 20 = 0 ∨ k1 - 20 = 1 := by omega
              rcases this with h | h <;> rw [h] <;> decide
            obtain ⟨D, F⟩ := dr_step hB hc4 H hq4 hu2
            have gadd : Go (d + 4) 32 0 [some (.ref 4), some (.int (nI k - (10 : Int32))), some (.int (nI k1 - (20 : Int32)))] [] (hX tN tB pF (nI q1) (nI k1) (nI e1) dN dO dV dZ dQ dU dW sN sO sV sZ sQ sU sW rN rP rK rF rR rT rL rQ mS mT mK mF mG m1 m2 wN wF yN yF iK eN eO eV eZ eQ eU eW eS eB jK fN fO fV fZ fQ fU fW fS fB h0N h0L h0C h1N h1L h1C h2N h2L h2C h3N h3L h3C) none (hX tN tB pF (nI q1) (nI k1) (nI e1) (nI (c + 1)) dO dV dZ (upd dQ c (nI (k - 10))) (upd dU c (nI (k1 - 20))) (upd dW c (-4)) sN sO sV sZ sQ sU sW rN rP rK rF rR rT rL rQ mS mT mK mF mG m1 m2 wN wF yN yF iK eN eO eV eZ eQ eU eW eS eB jK fN fO fV fZ fQ fU fW fS fB h0N h0L h0C h1N h1L h1C h2N h2L h2C h3N h3L h3C) := by
              rw [eX1, eX2]
              exact b_X4_add_4_0 (pk_le 4 c (fun z => by omega) (fun _ => ⟨c, hN, hc4, c, hN, hc4, c, hN, hc4, rfl, by rw [hN, nI_1]⟩) rfl hN)
            have xr2 := x_readToken (d := d) (t := t) hT (tN := tN) (tB := tB) (pF := pF) (pA := (nI q1)) (pT := (nI k1)) (pB := (nI e1)) (dN := (nI (c + 1))) (dO := dO) (dV := dV) (dZ := dZ) (dQ := (upd dQ c (nI (k - 10)))) (dU := (upd dU c (nI (k1 - 20)))) (dW := (upd dW c (-4))) (sN := sN) (sO := sO) (sV := sV) (sZ := sZ) (sQ := sQ) (sU := sU) (sW := sW) (rN := rN) (rP := rP) (rK := rK) (rF := rF) (rR := rR) (rT := rT) (rL := rL) (rQ := rQ) (mS := mS) (mT := mT) (mK := mK) (mF := mF) (mG := mG) (m1 := m1) (m2 := m2) (wN := wN) (wF := wF) (yN := yN) (yF := yF) (iK := iK) (eN := eN) (eO := eO) (eV := eV) (eZ := eZ) (eQ := eQ) (eU := eU) (eW := eW) (eS := eS) (eB := eB) (jK := jK) (fN := fN) (fO := fO) (fV := fV) (fZ := fZ) (fQ := fQ) (fU := fU) (fW := fW) (fS := fS) (fB := fB) (h0N := h0N) (h0L := h0L) (h0C := h0C) (h1N := h1N) (h1L := h1L) (h1C := h1C) (h2N := h2N) (h2L := h2L) (h2C := h2C) (h3N := h3N) (h3L := h3L) (h3C := h3C) rt1 x2 ms1.2.2.2.2.1 rfl
            obtain ⟨ub1, ub2, ub3⟩ := tok_b (t := t) ms1.2.2.2.2.1
            generalize hk2 : (tok t T e1).1 = k2 at xr2 mo2 ub1 ub3
            generalize hq2 : (tok t T e1).2.1 = q2 at xr2 mo2 ub2
            generalize he2 : (tok t T e1).2.2 = e2 at xr2 mo2 ub3
            rcases mo2 with ⟨z, _⟩ | ⟨_, z1, z2, z3⟩ | ⟨_, z1, ms2⟩
            · exact absurd z nv4
            · subst z1
              refine ⟨1, pF, nI q2, nI 1, nI e2, nI (c + 1), _, _, _, draft, po2, be2, so2, fa2, wr2, b_X2_takePhrases_2 (cn hi (cy (hk10.mpr hq) (cy hNlt ⟨_, _, _, xr1, cy (hk20.mpr hn) ⟨_, _, _, _, gadd, _, _, _, xr2, cn (by decide) ⟨rfl, rfl⟩⟩⟩))), b_X9_readPhrases_16 (cn (by decide) ⟨_, gq, _, _, g2, _, _, g3, _, _, _, _, _, mr1, ny rfl ⟨_, gn, _, _, _, _, _, _, mt2, ?_⟩⟩), Or.inr (Or.inr ⟨rfl, rfl, rfl, q2, rfl, z2, z3⟩)⟩
              rw [z2]
              exact mEnd 1 _ _ _ _ _ _ _ _ (by decide) (by decide)
            · have fz := ms2.1
              subst fz z1
              obtain ⟨s1, hs1⟩ : ∃ s1 : Nat → Int32, s1 = dr_st B c draft (nI (k - 10)) (nI (k1 - 20)) := ⟨_, rfl⟩
              rw [← hs1] at D F
              have s10 : s1 0 = nI (c + 1) := by rw [hs1]; rfl
              have m84 : ∀ (v : Option Value) (h' : aH), (∀ s0 : Nat → Int32, upd s0 0 (nI (c + 1)) = s1 → s0 0 = nI c → Go (d + 3) 116 162 [some (.ref 0), some (.int (if c = B then -4 else nI (c - 1))), none, none, none, some (.int (nI c)), some (.int (nI (3 + 5 * c)))] [] (hM st s0 kept isKept tape taped po2 be2 so2 (0 : Int32) wr2 rows places aheads readings isFound now at_ place rank nounBits verbBits inner table next powers things holding patterns seeded lanes sizes cells) v h') → Go (d + 3) 116 84 [some (.ref 0), some (.int (if c = B then -4 else nI (c - 1))), none, some (.int (qn k)), none, none, none] [.int (un_n k1)] (hM st draft kept isKept tape taped po2 be2 so2 (0 : Int32) wr2 rows places aheads readings isFound now at_ place rank nounBits verbBits inner table next powers things holding patterns seeded lanes sizes cells) v h' := by
                intro v h' g162
                have i0 : ((3 : Int32) + (5 : Int32) * nI c) + (0 : Int32) = nI (3 + 5 * c) := ix5 c 0
                have i1 : ((3 : Int32) + (5 : Int32) * nI c) + (1 : Int32) = nI (4 + 5 * c) := by
                  have := ix5 c 1
                  rw [show 3 + 5 * c + 1 = 4 + 5 * c by omega] at this
                  exact this
                have i2 : ((3 : Int32) + (5 : Int32) * nI c) + (2 : Int32) = nI (5 + 5 * c) := by
                  have := ix5 c 2
                  rw [show 3 + 5 * c + 2 = 5 + 5 * c by omega] at this
                  exact this
                have ib : (3 : Int32) + (5 : Int32) * nI c = nI (3 + 5 * c) := by
                  show nI 3 + nI 5 * nI c = _
                  rw [pk_mul, nI_add]
                obtain ⟨es1, es2⟩ := dr_es (B := B) (c := c) (st := draft) (x0 := nI (k - 10)) (x1 := nI (k1 - 20)) (x2 := if c = B then -4 else nI (c - 1)) hB rfl
                refine b_X9_readPhrases_84 (ny rfl ?_)
                rw [h0, qv, nv]
                refine ⟨3 + 5 * c, i0, by omega, 4 + 5 * c, i1, by omega, 5 + 5 * c, i2, by omega, ?_⟩
                rw [ib]
                by_cases eB : c = B
                · refine cy (if_pos eB) (g162 _ (by rw [hs1]; exact es1 eB) ?_)
                  rw [pk_un (by omega), pk_un (by omega), pk_un (by omega)]; exact h0
                · have i4 : ((3 : Int32) + (5 : Int32) * nI (c - 1)) + (4 : Int32) = nI (7 + 5 * (c - 1)) := by
                    have := ix5 (c - 1) 4
                    rw [show 3 + 5 * (c - 1) + 4 = 7 + 5 * (c - 1) by omega] at this
                    exact this
                  refine cn (by rw [if_neg eB]; exact nI_n4 _ (by omega)) ⟨7 + 5 * (c - 1), by rw [if_neg eB]; exact i4, by omega, g162 _ (by rw [hs1]; exact es2 eB) ?_⟩
                  rw [pk_un (by omega), pk_un (by omega), pk_un (by omega), pk_un (by omega)]; exact h0
              have gt := m_thatK (d := d) hT (st := st) (draft := s1) (kept := kept) (isKept := isKept) (tape := tape) (taped := taped) (pos := po2) (begun := be2) (sort := so2) (fault := (0 : Int32)) (wrongAt := wr2) (rows := rows) (places := places) (aheads := aheads) (readings := readings) (isFound := isFound) (now := now) (at_ := at_) (place := place) (rank := rank) (nounBits := nounBits) (verbBits := verbBits) (inner := inner) (table := table) (next := next) (powers := powers) (things := things) (holding := holding) (patterns := patterns) (seeded := seeded) (lanes := lanes) (sizes := sizes) (cells := cells) rt2 y2 ms2
              by_cases h3 : k2 = 3
              · subst h3
                rw [if_pos rfl] at gt
                have xr3 := x_readToken (d := d) (t := t) hT (tN := tN) (tB := tB) (pF := pF) (pA := (nI q2)) (pT := (nI 3)) (pB := (nI e2)) (dN := (nI (c + 1))) (dO := dO) (dV := dV) (dZ := dZ) (dQ := (upd dQ c (nI (k - 10)))) (dU := (upd dU c (nI (k1 - 20)))) (dW := (upd dW c (-4))) (sN := sN) (sO := sO) (sV := sV) (sZ := sZ) (sQ := sQ) (sU := sU) (sW := sW) (rN := rN) (rP := rP) (rK := rK) (rF := rF) (rR := rR) (rT := rT) (rL := rL) (rQ := rQ) (mS := mS) (mT := mT) (mK := mK) (mF := mF) (mG := mG) (m1 := m1) (m2 := m2) (wN := wN) (wF := wF) (yN := yN) (yF := yF) (iK := iK) (eN := eN) (eO := eO) (eV := eV) (eZ := eZ) (eQ := eQ) (eU := eU) (eW := eW) (eS := eS) (eB := eB) (jK := jK) (fN := fN) (fO := fO) (fV := fV) (fZ := fZ) (fQ := fQ) (fU := fU) (fW := fW) (fS := fS) (fB := fB) (h0N := h0N) (h0L := h0L) (h0C := h0C) (h1N := h1N) (h1L := h1L) (h1C := h1C) (h2N := h2N) (h2L := h2L) (h2C := h2C) (h3N := h3N) (h3L := h3L) (h3C := h3C) rt1 x2 ms2.2.2.2.2.1 rfl
                obtain ⟨po3, be3, so3, fa3, wr3, mr3, ms3⟩ := m_reads (d := d + 1) (t := t) hT (st := st) (draft := s1) (kept := kept) (isKept := isKept) (tape := tape) (taped := taped) (pos := po2) (begun := be2) (sort := so2) (fault := (0 : Int32)) (wrongAt := wr2) (rows := rows) (places := places) (aheads := aheads) (readings := readings) (isFound := isFound) (now := now) (at_ := at_) (place := place) (rank := rank) (nounBits := nounBits) (verbBits := verbBits) (inner := inner) (table := table) (next := next) (powers := powers) (things := things) (holding := holding) (patterns := patterns) (seeded := seeded) (lanes := lanes) (sizes := sizes) (cells := cells) rt2 y2 ms2.2.2.2.2.1 ms2.2.2.1 rfl
                obtain ⟨vb1, vb2, vb3⟩ := tok_b (t := t) ms2.2.2.2.2.1
                generalize hk3 : (tok t T e2).1 = k3 at xr3 ms3 vb1 vb3
                generalize hq3 : (tok t T e2).2.1 = q3 at xr3 ms3 vb2
                generalize he3 : (tok t T e2).2.2 = e3 at xr3 ms3 vb3
                have hk30 := k_rng (k := k3) (a := 30) (b := 2) (by omega) (by decide)
                have i3 : nI (3 + 5 * c) + (3 : Int32) = nI (6 + 5 * c) := by
                  show nI (3 + 5 * c) + nI 3 = _
                  rw [nI_add]; congr 1; omega
                have m212 : ∀ (f : Nat) (r6 po be so wr : Int32), 1 ≤ f → f ≤ 3 → Go (d + 3) 116 212 [some (.ref 0), none, none, none, none, some (.int (nI c)), none] [.int r6, .int (nI (3 + 5 * c) + (3 : Int32)), .ref 2] (hM st s1 kept isKept tape taped po be so (nI f) wr rows places aheads readings isFound now at_ place rank nounBits verbBits inner table next powers things holding patterns seeded lanes sizes cells) none (hM st (upd s1 (6 + 5 * c) r6) kept isKept tape taped po be so (nI f) wr rows places aheads readings isFound now at_ place rank nounBits verbBits inner table next powers things holding patterns seeded lanes sizes cells) := fun f r6 po be so wr h1 h2 => b_X9_readPhrases_212 ⟨6 + 5 * c, i3, by omega, by
                  rw [if_neg (show ¬ nI f = 0 from nI_ne0 (by omega) (by omega))]
                  exact b_X9_readPhrases_16 (cy rfl ⟨rfl, rfl⟩)⟩
                rcases ms3 with ms3 | ⟨mk, mf, mw⟩
                · have fz := ms3.1
                  subst fz
                  have gv' := m_verbK (d := d) hT (st := st) (draft := s1) (kept := kept) (isKept := isKept) (tape := tape) (taped := taped) (pos := po3) (begun := be3) (sort := so3) (fault := (0 : Int32)) (wrongAt := wr3) (rows := rows) (places := places) (aheads := aheads) (readings := readings) (isFound := isFound) (now := now) (at_ := at_) (place := place) (rank := rank) (nounBits := nounBits) (verbBits := verbBits) (inner := inner) (table := table) (next := next) (powers := powers) (things := things) (holding := holding) (patterns := patterns) (seeded := seeded) (lanes := lanes) (sizes := sizes) (cells := cells) rt2 y2 ms3
                  obtain ⟨r4, po4, be4, so4, fa4, wr4, mt4, mo4⟩ := m_taken (d := d) (x := vn k3) hT (st := st) (draft := s1) (kept := kept) (isKept := isKept) (tape := tape) (taped := taped) (pos := po3) (begun := be3) (sort := so3) (fault := (0 : Int32)) (wrongAt := wr3) (rows := rows) (places := places) (aheads := aheads) (readings := readings) (isFound := isFound) (now := now) (at_ := at_) (place := place) (rank := rank) (nounBits := nounBits) (verbBits := verbBits) (inner := inner) (table := table) (next := next) (powers := powers) (things := things) (holding := holding) (patterns := patterns) (seeded := seeded) (lanes := lanes) (sizes := sizes) (cells := cells) rt2 y2 ms3
                  by_cases hv3 : 30 ≤ k3 ∧ k3 < 32
                  · have vv : vn k3 = nI (k3 - 30) := if_pos hv3
                    have vv4 : ¬ vn k3 = -4 := by rw [vv]; exact nI_n4 _ (by omega)
                    have eX3 : nI k3 - (30 : Int32) = nI (k3 - 30) := pk_sub (a := k3) (b := 30) hv3.1
                    have hw2 : nI (k3 - 30) = 0 ∨ nI (k3 - 30) = 1 := by
                      have : k3 - 30 = 0 ∨ k3 - 30 = 1 := by omega
                      rcases this with h | h <;> rw [h] <;> decide
                    obtain ⟨H2, F2⟩ := dr_more (B := B) (c := c + 1) (by omega) (by omega) D hw2
                    rw [Nat.add_sub_cancel] at H2 F2
                    have gmk : Go (d + 4) 33 0 [some (.ref 4), some (.int (nI k3 - (30 : Int32)))] [] (hX tN tB pF (nI q3) (nI k3) (nI e3) (nI (c + 1)) dO dV dZ (upd dQ c (nI (k - 10))) (upd dU c (nI (k1 - 20))) (upd dW c (-4)) sN sO sV sZ sQ sU sW rN rP rK rF rR rT rL rQ mS mT mK mF mG m1 m2 wN wF yN yF iK eN eO eV eZ eQ eU eW eS eB jK fN fO fV fZ fQ fU fW fS fB h0N h0L h0C h1N h1L h1C h2N h2L h2C h3N h3L h3C) none (hX tN tB pF (nI q3) (nI k3) (nI e3) (nI (c + 1)) dO dV dZ (upd dQ c (nI (k - 10))) (upd dU c (nI (k1 - 20))) (upd (upd dW c (-4)) c (nI (k3 - 30))) sN sO sV sZ sQ sU sW rN rP rK rF rR rT rL rQ mS mT mK mF mG m1 m2 wN wF yN yF iK eN eO eV eZ eQ eU eW eS eB jK fN fO fV fZ fQ fU fW fS fB h0N h0L h0C h1N h1L h1C h2N h2L h2C h3N h3L h3C) := by
                      rw [eX3]
                      exact b_X4_makeLatestHost_4_0 (cn (nI_nle (by omega) (by omega)) ⟨c, nI_pred c, hc4, rfl, rfl⟩)
                    have xr4 := x_readToken (d := d) (t := t) hT (tN := tN) (tB := tB) (pF := pF) (pA := (nI q3)) (pT := (nI k3)) (pB := (nI e3)) (dN := (nI (c + 1))) (dO := dO) (dV := dV) (dZ := dZ) (dQ := (upd dQ c (nI (k - 10)))) (dU := (upd dU c (nI (k1 - 20)))) (dW := (upd (upd dW c (-4)) c (nI (k3 - 30)))) (sN := sN) (sO := sO) (sV := sV) (sZ := sZ) (sQ := sQ) (sU := sU) (sW := sW) (rN := rN) (rP := rP) (rK := rK) (rF := rF) (rR := rR) (rT := rT) (rL := rL) (rQ := rQ) (mS := mS) (mT := mT) (mK := mK) (mF := mF) (mG := mG) (m1 := m1) (m2 := m2) (wN := wN) (wF := wF) (yN := yN) (yF := yF) (iK := iK) (eN := eN) (eO := eO) (eV := eV) (eZ := eZ) (eQ := eQ) (eU := eU) (eW := eW) (eS := eS) (eB := eB) (jK := jK) (fN := fN) (fO := fO) (fV := fV) (fZ := fZ) (fQ := fQ) (fU := fU) (fW := fW) (fS := fS) (fB := fB) (h0N := h0N) (h0L := h0L) (h0C := h0C) (h1N := h1N) (h1L := h1L) (h1C := h1C) (h2N := h2N) (h2L := h2L) (h2C := h2C) (h3N := h3N) (h3L := h3L) (h3C := h3C) rt1 x2 ms3.2.2.2.2.1 rfl
                    obtain ⟨wb1, wb2, wb3⟩ := tok_b (t := t) ms3.2.2.2.2.1
                    generalize hk4' : (tok t T e3).1 = k4 at xr4 mo4 wb1 wb3
                    generalize hq4' : (tok t T e3).2.1 = q4 at xr4 mo4 wb2
                    generalize he4' : (tok t T e3).2.2 = e4 at xr4 mo4 wb3
                    have e1c : nI (c - B) + (1 : Int32) = nI (c + 1 - B) := by rw [nI_1]; congr 1; omega
                    rcases mo4 with ⟨z, _⟩ | ⟨_, z1, z2, z3⟩ | ⟨_, z1, ms4⟩
                    · exact absurd z vv4
                    · subst z1
                      have xr := x_refuse (d := d + 4) (k := 1) (by decide) (tN := tN) (tB := tB) (pF := pF) (pA := (nI q4)) (pT := (nI 1)) (pB := (nI e4)) (dN := (nI (c + 1))) (dO := dO) (dV := dV) (dZ := dZ) (dQ := (upd dQ c (nI (k - 10)))) (dU := (upd dU c (nI (k1 - 20)))) (dW := (upd (upd dW c (-4)) c (nI (k3 - 30)))) (sN := sN) (sO := sO) (sV := sV) (sZ := sZ) (sQ := sQ) (sU := sU) (sW := sW) (rN := rN) (rP := rP) (rK := rK) (rF := rF) (rR := rR) (rT := rT) (rL := rL) (rQ := rQ) (mS := mS) (mT := mT) (mK := mK) (mF := mF) (mG := mG) (m1 := m1) (m2 := m2) (wN := wN) (wF := wF) (yN := yN) (yF := yF) (iK := iK) (eN := eN) (eO := eO) (eV := eV) (eZ := eZ) (eQ := eQ) (eU := eU) (eW := eW) (eS := eS) (eB := eB) (jK := jK) (fN := fN) (fO := fO) (fV := fV) (fZ := fZ) (fQ := fQ) (fU := fU) (fW := fW) (fS := fS) (fB := fB) (h0N := h0N) (h0L := h0L) (h0C := h0C) (h1N := h1N) (h1L := h1L) (h1C := h1C) (h2N := h2N) (h2L := h2L) (h2C := h2C) (h3N := h3N) (h3L := h3L) (h3C := h3C) rfl
                      have hi2 : ¬ (4 : Int32) < nI (c - B) + 1 := by rw [e1c]; exact nI_nlt (a := 4) (b := c + 1 - B) (by omega) (by omega)
                      refine ⟨0, nI 1, nI q4, nI 1, nI e4, nI (c + 1), _, _, _, _, po4, be4, so4, fa4, wr4, b_X2_takePhrases_2 (cn hi (cy (hk10.mpr hq) (cy hNlt ⟨_, _, _, xr1, cy (hk20.mpr hn) ⟨_, _, _, _, gadd, _, _, _, xr2, cy rfl ⟨_, _, _, xr3, cy (hk30.mpr hv3) ⟨_, gmk, _, _, _, xr4, b_X2_takePhrases_2 (cn hi2 (cn (by decide) ⟨_, _, xr, Or.inl rfl, rfl, rfl⟩))⟩⟩⟩⟩))), b_X9_readPhrases_16 (cn (by decide) ⟨_, gq, _, _, g2, _, _, g3, _, _, _, _, _, mr1, ny rfl ⟨_, gn, _, _, _, _, _, _, mt2, m84 _ _ (fun s0 w1 w2 => b_X9_readPhrases_162 (by
                          rw [w2, nI_1, w1]
                          refine ⟨_, gt, cn (by decide) ⟨_, _, _, _, _, mr3, ny rfl ⟨_, gv', _, _, _, _, _, _, mt4, ?_⟩⟩⟩
                          rw [z2]
                          exact m212 1 _ _ _ _ _ (by decide) (by decide)))⟩⟩), Or.inl ⟨rfl, 1, q4, by decide, by decide, rfl, rfl, z2, z3⟩⟩
                    · have fz := ms4.1
                      subst fz z1
                      obtain ⟨r, pF1, pA1, pT1, pB1, dN1, dQ1, dU1, dW1, draft1, pos1, begun1, sort1, fault1, wrongAt1, gx, gm, ho⟩ := j_phr (d := d) (B := B) hT m (c + 1) k4 q4 e4 (tN := tN) (tB := tB) (pF := pF) (pA := (nI q4)) (pT := (nI k4)) (pB := (nI e4)) (dN := (nI (c + 1))) (dO := dO) (dV := dV) (dZ := dZ) (dQ := (upd dQ c (nI (k - 10)))) (dU := (upd dU c (nI (k1 - 20)))) (dW := (upd (upd dW c (-4)) c (nI (k3 - 30)))) (sN := sN) (sO := sO) (sV := sV) (sZ := sZ) (sQ := sQ) (sU := sU) (sW := sW) (rN := rN) (rP := rP) (rK := rK) (rF := rF) (rR := rR) (rT := rT) (rL := rL) (rQ := rQ) (mS := mS) (mT := mT) (mK := mK) (mF := mF) (mG := mG) (m1 := m1) (m2 := m2) (wN := wN) (wF := wF) (yN := yN) (yF := yF) (iK := iK) (eN := eN) (eO := eO) (eV := eV) (eZ := eZ) (eQ := eQ) (eU := eU) (eW := eW) (eS := eS) (eB := eB) (jK := jK) (fN := fN) (fO := fO) (fV := fV) (fZ := fZ) (fQ := fQ) (fU := fU) (fW := fW) (fS := fS) (fB := fB) (h0N := h0N) (h0L := h0L) (h0C := h0C) (h1N := h1N) (h1L := h1L) (h1C := h1C) (h2N := h2N) (h2L := h2L) (h2C := h2C) (h3N := h3N) (h3L := h3L) (h3C := h3C) (st := st) (draft := (upd s1 (6 + 5 * c) (nI (k3 - 30)))) (kept := kept) (isKept := isKept) (tape := tape) (taped := taped) (pos := po4) (begun := be4) (sort := so4) (fault := (0 : Int32)) (wrongAt := wr4) (rows := rows) (places := places) (aheads := aheads) (readings := readings) (isFound := isFound) (now := now) (at_ := at_) (place := place) (rank := rank) (nounBits := nounBits) (verbBits := verbBits) (inner := inner) (table := table) (next := next) (powers := powers) (things := things) (holding := holding) (patterns := patterns) (seeded := seeded) (lanes := lanes) (sizes := sizes) (cells := cells) R0 (by omega) (by omega) (by omega) wb1 H2 rfl (by rw [pk_un (by omega)]; exact s10) rfl rfl rfl ms4
                      refine ⟨r, pF1, pA1, pT1, pB1, dN1, dQ1, dU1, dW1, draft1, pos1, begun1, sort1, fault1, wrongAt1, b_X2_takePhrases_2 (cn hi (cy (hk10.mpr hq) (cy hNlt ⟨_, _, _, xr1, cy (hk20.mpr hn) ⟨_, _, _, _, gadd, _, _, _, xr2, cy rfl ⟨_, _, _, xr3, cy (hk30.mpr hv3) ⟨_, gmk, _, _, _, xr4, by rw [e1c]; exact gx⟩⟩⟩⟩))), b_X9_readPhrases_16 (cn (by decide) ⟨_, gq, _, _, g2, _, _, g3, _, _, _, _, _, mr1, ny rfl ⟨_, gn, _, _, _, _, _, _, mt2, m84 _ _ (fun s0 w1 w2 => b_X9_readPhrases_162 (by
                          rw [w2, nI_1, w1]
                          refine ⟨_, gt, cn (by decide) ⟨_, _, _, _, _, mr3, ny rfl ⟨_, gv', _, _, _, _, _, _, mt4, b_X9_readPhrases_212 ⟨6 + 5 * c, i3, by omega, ?_⟩⟩⟩⟩
                          rw [if_neg (show ¬ c + 1 = B by omega), Nat.add_sub_cancel] at gm
                          rw [if_pos rfl, vv]
                          exact gm))⟩⟩), ?_⟩
                      rcases ho with ho | ⟨o1, o2, c', k', q', e', p1, p2, p3, p4, p5, p6, p7, p8, p9, p10, p11⟩ | ho
                      · exact Or.inl ho
                      · exact Or.inr (Or.inl ⟨o1, o2, c', k', q', e', p1, p2, p3, p4, p5, p6, p7, p8, p9, p10, (F.tr F2).tr p11⟩)
                      · exact Or.inr (Or.inr ho)
                  · have vv4 : vn k3 = -4 := if_neg hv3
                    rcases mo4 with ⟨_, z2, z3⟩ | ⟨z, _⟩ | ⟨z, _⟩
                    · have k31 := syn_n1 ms3
                      have xr := x_refuse (d := d + 4) (k := k3) vb1 (tN := tN) (tB := tB) (pF := pF) (pA := (nI q3)) (pT := (nI k3)) (pB := (nI e3)) (dN := (nI (c + 1))) (dO := dO) (dV := dV) (dZ := dZ) (dQ := (upd dQ c (nI (k - 10)))) (dU := (upd dU c (nI (k1 - 20)))) (dW := (upd dW c (-4))) (sN := sN) (sO := sO) (sV := sV) (sZ := sZ) (sQ := sQ) (sU := sU) (sW := sW) (rN := rN) (rP := rP) (rK := rK) (rF := rF) (rR := rR) (rT := rT) (rL := rL) (rQ := rQ) (mS := mS) (mT := mT) (mK := mK) (mF := mF) (mG := mG) (m1 := m1) (m2 := m2) (wN := wN) (wF := wF) (yN := yN) (yF := yF) (iK := iK) (eN := eN) (eO := eO) (eV := eV) (eZ := eZ) (eQ := eQ) (eU := eU) (eW := eW) (eS := eS) (eB := eB) (jK := jK) (fN := fN) (fO := fO) (fV := fV) (fZ := fZ) (fQ := fQ) (fU := fU) (fW := fW) (fS := fS) (fB := fB) (h0N := h0N) (h0L := h0L) (h0C := h0C) (h1N := h1N) (h1L := h1L) (h1C := h1C) (h2N := h2N) (h2L := h2L) (h2C := h2C) (h3N := h3N) (h3L := h3L) (h3C := h3C) rfl
                      rw [if_neg k31] at xr
                      refine ⟨0, nI 2, nI q3, nI k3, nI e3, nI (c + 1), _, _, _, _, po4, be4, so4, fa4, wr4, b_X2_takePhrases_2 (cn hi (cy (hk10.mpr hq) (cy hNlt ⟨_, _, _, xr1, cy (hk20.mpr hn) ⟨_, _, _, _, gadd, _, _, _, xr2, cy rfl ⟨_, _, _, xr3, cn (fun z => hv3 (hk30.mp z)) ⟨_, _, xr, Or.inl rfl, rfl, rfl⟩⟩⟩⟩))), b_X9_readPhrases_16 (cn (by decide) ⟨_, gq, _, _, g2, _, _, g3, _, _, _, _, _, mr1, ny rfl ⟨_, gn, _, _, _, _, _, _, mt2, m84 _ _ (fun s0 w1 w2 => b_X9_readPhrases_162 (by
                          rw [w2, nI_1, w1]
                          refine ⟨_, gt, cn (by decide) ⟨_, _, _, _, _, mr3, ny rfl ⟨_, gv', _, _, _, _, _, _, mt4, ?_⟩⟩⟩
                          rw [z2]
                          exact m212 2 _ _ _ _ _ (by decide) (by decide)))⟩⟩), Or.inl ⟨rfl, 2, q3, by decide, by decide, rfl, rfl, z2, z3⟩⟩
                    · exact absurd vv4 z
                    · exact absurd vv4 z
                · subst mk
                  have xr := x_refuse (d := d + 4) (k := 1) (by decide) (tN := tN) (tB := tB) (pF := pF) (pA := (nI q3)) (pT := (nI 1)) (pB := (nI e3)) (dN := (nI (c + 1))) (dO := dO) (dV := dV) (dZ := dZ) (dQ := (upd dQ c (nI (k - 10)))) (dU := (upd dU c (nI (k1 - 20)))) (dW := (upd dW c (-4))) (sN := sN) (sO := sO) (sV := sV) (sZ := sZ) (sQ := sQ) (sU := sU) (sW := sW) (rN := rN) (rP := rP) (rK := rK) (rF := rF) (rR := rR) (rT := rT) (rL := rL) (rQ := rQ) (mS := mS) (mT := mT) (mK := mK) (mF := mF) (mG := mG) (m1 := m1) (m2 := m2) (wN := wN) (wF := wF) (yN := yN) (yF := yF) (iK := iK) (eN := eN) (eO := eO) (eV := eV) (eZ := eZ) (eQ := eQ) (eU := eU) (eW := eW) (eS := eS) (eB := eB) (jK := jK) (fN := fN) (fO := fO) (fV := fV) (fZ := fZ) (fQ := fQ) (fU := fU) (fW := fW) (fS := fS) (fB := fB) (h0N := h0N) (h0L := h0L) (h0C := h0C) (h1N := h1N) (h1L := h1L) (h1C := h1C) (h2N := h2N) (h2L := h2L) (h2C := h2C) (h3N := h3N) (h3L := h3L) (h3C := h3C) rfl
                  refine ⟨0, nI 1, nI q3, nI 1, nI e3, nI (c + 1), _, _, _, _, po3, be3, so3, fa3, wr3, b_X2_takePhrases_2 (cn hi (cy (hk10.mpr hq) (cy hNlt ⟨_, _, _, xr1, cy (hk20.mpr hn) ⟨_, _, _, _, gadd, _, _, _, xr2, cy rfl ⟨_, _, _, xr3, cn (by decide) ⟨_, _, xr, Or.inl rfl, rfl, rfl⟩⟩⟩⟩))), b_X9_readPhrases_16 (cn (by decide) ⟨_, gq, _, _, g2, _, _, g3, _, _, _, _, _, mr1, ny rfl ⟨_, gn, _, _, _, _, _, _, mt2, m84 _ _ (fun s0 w1 w2 => b_X9_readPhrases_162 (by
                          rw [w2, nI_1, w1]
                          refine ⟨_, gt, cn (by decide) ⟨_, _, _, _, _, mr3, nn (by rw [mf]; decide) ?_⟩⟩
                          have mf : fa3 = nI 1 := mf
                          rw [mf]
                          exact m212 1 _ _ _ _ _ (by decide) (by decide)))⟩⟩), Or.inl ⟨rfl, 1, q3, by decide, by decide, rfl, rfl, mf, mw⟩⟩
              · rw [if_neg h3] at gt
                have hne3 : ¬ nI k2 = 3 := fun z => h3 ((nI_eq (b := 3) (by omega) (by decide)).mp z)
                refine ⟨1, pF, nI q2, nI k2, nI e2, nI (c + 1), _, _, _, s1, po2, be2, so2, 0, wr2, b_X2_takePhrases_2 (cn hi (cy (hk10.mpr hq) (cy hNlt ⟨_, _, _, xr1, cy (hk20.mpr hn) ⟨_, _, _, _, gadd, _, _, _, xr2, cn hne3 ⟨rfl, rfl⟩⟩⟩))), b_X9_readPhrases_16 (cn (by decide) ⟨_, gq, _, _, g2, _, _, g3, _, _, _, _, _, mr1, ny rfl ⟨_, gn, _, _, _, _, _, _, mt2, m84 _ _ (fun s0 w1 w2 => b_X9_readPhrases_162 (by
                          rw [w2, nI_1, w1]
                          exact ⟨_, gt, cy rfl (b_X9_readPhrases_16 (cy rfl ⟨rfl, rfl⟩))⟩))⟩⟩), Or.inr (Or.inl ⟨rfl, rfl, c + 1, k2, q2, e2, by omega, by omega, ub1, rfl, rfl, rfl, ms2, rfl, s10, D, F⟩)⟩
          · have nv4 : un_n k1 = -4 := if_neg hn
            rcases mo2 with ⟨_, z2, z3⟩ | ⟨z, _⟩ | ⟨z, _⟩
            · have k11 := syn_n1 ms1
              have xr := x_refuse (d := d + 4) (k := k1) tb1 (tN := tN) (tB := tB) (pF := pF) (pA := (nI q1)) (pT := (nI k1)) (pB := (nI e1)) (dN := dN) (dO := dO) (dV := dV) (dZ := dZ) (dQ := dQ) (dU := dU) (dW := dW) (sN := sN) (sO := sO) (sV := sV) (sZ := sZ) (sQ := sQ) (sU := sU) (sW := sW) (rN := rN) (rP := rP) (rK := rK) (rF := rF) (rR := rR) (rT := rT) (rL := rL) (rQ := rQ) (mS := mS) (mT := mT) (mK := mK) (mF := mF) (mG := mG) (m1 := m1) (m2 := m2) (wN := wN) (wF := wF) (yN := yN) (yF := yF) (iK := iK) (eN := eN) (eO := eO) (eV := eV) (eZ := eZ) (eQ := eQ) (eU := eU) (eW := eW) (eS := eS) (eB := eB) (jK := jK) (fN := fN) (fO := fO) (fV := fV) (fZ := fZ) (fQ := fQ) (fU := fU) (fW := fW) (fS := fS) (fB := fB) (h0N := h0N) (h0L := h0L) (h0C := h0C) (h1N := h1N) (h1L := h1L) (h1C := h1C) (h2N := h2N) (h2L := h2L) (h2C := h2C) (h3N := h3N) (h3L := h3L) (h3C := h3C) rfl
              rw [if_neg k11] at xr
              refine ⟨0, nI 2, nI q1, nI k1, nI e1, dN, dQ, dU, dW, draft, po2, be2, so2, fa2, wr2, b_X2_takePhrases_2 (cn hi (cy (hk10.mpr hq) (cy hNlt ⟨_, _, _, xr1, cn (fun z => hn (hk20.mp z)) ⟨_, _, xr, Or.inl rfl, rfl, rfl⟩⟩))), b_X9_readPhrases_16 (cn (by decide) ⟨_, gq, _, _, g2, _, _, g3, _, _, _, _, _, mr1, ny rfl ⟨_, gn, _, _, _, _, _, _, mt2, ?_⟩⟩), Or.inl ⟨rfl, 2, q1, by decide, by decide, rfl, rfl, z2, z3⟩⟩
              rw [z2]
              exact mEnd 2 _ _ _ _ _ _ _ _ (by decide) (by decide)
            · exact absurd nv4 z
            · exact absurd nv4 z
        · subst mk
          have xr := x_refuse (d := d + 4) (k := 1) (by decide) (tN := tN) (tB := tB) (pF := pF) (pA := (nI q1)) (pT := (nI 1)) (pB := (nI e1)) (dN := dN) (dO := dO) (dV := dV) (dZ := dZ) (dQ := dQ) (dU := dU) (dW := dW) (sN := sN) (sO := sO) (sV := sV) (sZ := sZ) (sQ := sQ) (sU := sU) (sW := sW) (rN := rN) (rP := rP) (rK := rK) (rF := rF) (rR := rR) (rT := rT) (rL := rL) (rQ := rQ) (mS := mS) (mT := mT) (mK := mK) (mF := mF) (mG := mG) (m1 := m1) (m2 := m2) (wN := wN) (wF := wF) (yN := yN) (yF := yF) (iK := iK) (eN := eN) (eO := eO) (eV := eV) (eZ := eZ) (eQ := eQ) (eU := eU) (eW := eW) (eS := eS) (eB := eB) (jK := jK) (fN := fN) (fO := fO) (fV := fV) (fZ := fZ) (fQ := fQ) (fU := fU) (fW := fW) (fS := fS) (fB := fB) (h0N := h0N) (h0L := h0L) (h0C := h0C) (h1N := h1N) (h1L := h1L) (h1C := h1C) (h2N := h2N) (h2L := h2L) (h2C := h2C) (h3N := h3N) (h3L := h3L) (h3C := h3C) rfl
          refine ⟨0, nI 1, nI q1, nI 1, nI e1, dN, dQ, dU, dW, draft, po1, be1, so1, fa1, wr1, b_X2_takePhrases_2 (cn hi (cy (hk10.mpr hq) (cy hNlt ⟨_, _, _, xr1, cn (by decide) ⟨_, _, xr, Or.inl rfl, rfl, rfl⟩⟩))), b_X9_readPhrases_16 (cn (by decide) ⟨_, gq, _, _, g2, _, _, g3, _, _, _, _, _, mr1, nn (by rw [mf]; decide) ?_⟩), Or.inl ⟨rfl, 1, q1, by decide, by decide, rfl, rfl, mf, mw⟩⟩
          have mf : fa1 = nI 1 := mf
          rw [mf]
          exact mEnd 1 _ _ _ _ _ _ _ _ (by decide) (by decide)
    · have qv4 : qn k = -4 := if_neg hq
      have k01 := syn_n1 hs
      have xr := x_refuse (d := d + 4) (k := k) hk (tN := tN) (tB := tB) (pF := pF) (pA := (nI q)) (pT := (nI k)) (pB := (nI e)) (dN := dN) (dO := dO) (dV := dV) (dZ := dZ) (dQ := dQ) (dU := dU) (dW := dW) (sN := sN) (sO := sO) (sV := sV) (sZ := sZ) (sQ := sQ) (sU := sU) (sW := sW) (rN := rN) (rP := rP) (rK := rK) (rF := rF) (rR := rR) (rT := rT) (rL := rL) (rQ := rQ) (mS := mS) (mT := mT) (mK := mK) (mF := mF) (mG := mG) (m1 := m1) (m2 := m2) (wN := wN) (wF := wF) (yN := yN) (yF := yF) (iK := iK) (eN := eN) (eO := eO) (eV := eV) (eZ := eZ) (eQ := eQ) (eU := eU) (eW := eW) (eS := eS) (eB := eB) (jK := jK) (fN := fN) (fO := fO) (fV := fV) (fZ := fZ) (fQ := fQ) (fU := fU) (fW := fW) (fS := fS) (fB := fB) (h0N := h0N) (h0L := h0L) (h0C := h0C) (h1N := h1N) (h1L := h1L) (h1C := h1C) (h2N := h2N) (h2L := h2L) (h2C := h2C) (h3N := h3N) (h3L := h3L) (h3C := h3C) rfl
      rw [if_neg k01] at xr
      have g2 : Go (d + 2) 107 0 [some (.ref 0), some (.int (if ¬ qn k = -4 then (1 : Int32) else 0)), some (.int (2 : Int32))] [] (hM st draft kept isKept tape taped pos begun sort (0 : Int32) wrongAt rows places aheads readings isFound now at_ place rank nounBits verbBits inner table next powers things holding patterns seeded lanes sizes cells) none (hM st draft kept isKept tape taped pos begun sort (2 : Int32) begun rows places aheads readings isFound now at_ place rank nounBits verbBits inner table next powers things holding patterns seeded lanes sizes cells) := m_req0 (by rw [if_neg (fun z => z qv4)]) rfl
      have g3 : ∀ x : Int32, Go (d + 2) 107 0 [some (.ref 0), some (.int x), some (.int (3 : Int32))] [] (hM st draft kept isKept tape taped pos begun sort (2 : Int32) begun rows places aheads readings isFound now at_ place rank nounBits verbBits inner table next powers things holding patterns seeded lanes sizes cells) none (hM st draft kept isKept tape taped pos begun sort (2 : Int32) begun rows places aheads readings isFound now at_ place rank nounBits verbBits inner table next powers things holding patterns seeded lanes sizes cells) := fun x => m_reqf (by decide)
      have g4 := m_reads_f (d := d + 1) (f := 2) (st := st) (draft := draft) (kept := kept) (isKept := isKept) (tape := tape) (taped := taped) (pos := pos) (begun := begun) (sort := sort) (fault := (2 : Int32)) (wrongAt := begun) (rows := rows) (places := places) (aheads := aheads) (readings := readings) (isFound := isFound) (now := now) (at_ := at_) (place := place) (rank := rank) (nounBits := nounBits) (verbBits := verbBits) (inner := inner) (table := table) (next := next) (powers := powers) (things := things) (holding := holding) (patterns := patterns) (seeded := seeded) (lanes := lanes) (sizes := sizes) (cells := cells) rfl (by decide) (by decide)
      exact ⟨0, nI 2, nI q, nI k, nI e, dN, dQ, dU, dW, draft, pos, begun, sort, 2, begun, b_X2_takePhrases_2 (cn hi (cn (fun z => hq (hk10.mp z)) ⟨_, _, xr, Or.inl rfl, rfl, rfl⟩)), b_X9_readPhrases_16 (cn (by decide) ⟨_, gq, _, _, g2, _, _, g3 _, _, _, _, _, _, g4, nn (by decide) (mEnd 2 _ _ _ _ _ _ _ _ (by decide) (by decide))⟩), Or.inl ⟨rfl, 2, q, by decide, by decide, rfl, rfl, rfl, hs.2.1⟩⟩
