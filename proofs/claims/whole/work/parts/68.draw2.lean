/-! draw: both sides alike -/
theorem j_draws {d most B : Nat} (hm : most ≤ 3) : ∀ (m c : Nat) {tN : Int32} {tB : Nat → Int32} {pF pA pT pB dN dO dV dZ : Int32} {dQ dU dW : Nat → Int32} {sN sO sV sZ : Int32} {sQ sU sW : Nat → Int32} {rN : Int32} {rP rK rF rR rT rL rQ : Nat → Int32} {mS : Int32} {mT : Nat → Int64} {mK : Nat → Int32} {mF : Nat → Int64} {mG m1 m2 : Nat → Int32} {wN : Int32} {wF : Int64} {yN : Int32} {yF : Int64} {iK eN eO eV eZ : Int32} {eQ eU eW : Nat → Int32} {eS : Int32} {eB : Int64} {jK fN fO fV fZ : Int32} {fQ fU fW : Nat → Int32} {fS : Int32} {fB : Int64} {h0N h0L : Int32} {h0C : Nat → Int32} {h1N h1L : Int32} {h1C : Nat → Int32} {h2N h2L : Int32} {h2C : Nat → Int32} {h3N h3L : Int32} {h3C : Nat → Int32} {st draft kept isKept tape : Nat → Int32} {taped pos begun sort fault wrongAt : Int32} {rows places aheads : Nat → Int32} {readings isFound : Int32} {now at_ place rank : Nat → Int32} {nounBits verbBits inner table next : Nat → Int64} {powers : Nat → Int32} {things : Int32} {holding patterns : Nat → Int64} {seeded : Int32} {lanes sizes cells : Nat → Int32}, c + m = most + 1 → 1 ≤ m → B ≤ c → dr_H B c sQ sU sW st → sN = nI c → st 0 = nI c → sZ = seeded → ∃ (c' : Nat) (sN' sZ' : Int32) (sQ' sU' sW' st' : Nat → Int32), B < c' ∧ c' ≤ most + 1 ∧ Go (d + 1) 39 2 [some (.ref 8), some (.int (nI most)), some (.int (nI (c - B))), none, none, none] [] (hX tN tB pF pA pT pB dN dO dV dZ dQ dU dW sN sO sV sZ sQ sU sW rN rP rK rF rR rT rL rQ mS mT mK mF mG m1 m2 wN wF yN yF iK eN eO eV eZ eQ eU eW eS eB jK fN fO fV fZ fQ fU fW fS fB h0N h0L h0C h1N h1L h1C h2N h2L h2C h3N h3L h3C) none (hX tN tB pF pA pT pB dN dO dV dZ dQ dU dW sN' sO sV sZ' sQ' sU' sW' rN rP rK rF rR rT rL rQ mS mT mK mF mG m1 m2 wN wF yN yF iK eN eO eV eZ eQ eU eW eS eB jK fN fO fV fZ fQ fU fW fS fB h0N h0L h0C h1N h1L h1C h2N h2L h2C h3N h3L h3C) ∧ Go (d + 1) 148 5 [some (.ref 0), some (.int (nI most)), some (.int (if c = B then -4 else nI (c - 1))), some (.int (1 : Int32)), none, none] [] (hM st draft kept isKept tape taped pos begun sort fault wrongAt rows places aheads readings isFound now at_ place rank nounBits verbBits inner table next powers things holding patterns seeded lanes sizes cells) none (hM st' draft kept isKept tape taped pos begun sort fault wrongAt rows places aheads readings isFound now at_ place rank nounBits verbBits inner table next powers things holding patterns sZ' lanes sizes cells) ∧ sN' = nI c' ∧ st' 0 = nI c' ∧ dr_D B c' sQ' sU' sW' st' ∧ dr_F B sQ sU sW st sQ' sU' sW' st'
  | 0, c, tN, tB, pF, pA, pT, pB, dN, dO, dV, dZ, dQ, dU, dW, sN, sO, sV, sZ, sQ, sU, sW, rN, rP, rK, rF, rR, rT, rL, rQ, mS, mT, mK, mF, mG, m1, m2, wN, wF, yN, yF, iK, eN, eO, eV, eZ, eQ, eU, eW, eS, eB, jK, fN, fO, fV, fZ, fQ, fU, fW, fS, fB, h0N, h0L, h0C, h1N, h1L, h1C, h2N, h2L, h2C, h3N, h3L, h3C, st, draft, kept, isKept, tape, taped, pos, begun, sort, fault, wrongAt, rows, places, aheads, readings, isFound, now, at_, place, rank, nounBits, verbBits, inner, table, next, powers, things, holding, patterns, seeded, lanes, sizes, cells, hi, h1, hB, H, hN, h0, hz => by omega
  | m + 1, c, tN, tB, pF, pA, pT, pB, dN, dO, dV, dZ, dQ, dU, dW, sN, sO, sV, sZ, sQ, sU, sW, rN, rP, rK, rF, rR, rT, rL, rQ, mS, mT, mK, mF, mG, m1, m2, wN, wF, yN, yF, iK, eN, eO, eV, eZ, eQ, eU, eW, eS, eB, jK, fN, fO, fV, fZ, fQ, fU, fW, fS, fB, h0N, h0L, h0C, h1N, h1L, h1C, h2N, h2L, h2C, h3N, h3L, h3C, st, draft, kept, isKept, tape, taped, pos, begun, sort, fault, wrongAt, rows, places, aheads, readings, isFound, now, at_, place, rank, nounBits, verbBits, inner, table, next, powers, things, holding, patterns, seeded, lanes, sizes, cells, hi, h1, hB, H, hN, h0, hz => by
    subst hz
    have hc : c < 4 := by omega
    obtain ⟨D, F⟩ := dr_step hB hc H (gv_4 (nz sZ)) (gv_2 (nz (nz sZ)))
    have es : ∀ x0 x1 x2 : Int32, x2 = (if c = B then -4 else nI (c - 1)) → (c = B → upd (upd (upd (upd st (3 + 5 * c) x0) (4 + 5 * c) x1) (5 + 5 * c) x2) 0 (nI (c + 1)) = dr_st B c st x0 x1) ∧ (c ≠ B → upd (upd (upd (upd (upd st (3 + 5 * c) x0) (4 + 5 * c) x1) (5 + 5 * c) x2) (7 + 5 * (c - 1)) (nI c)) 0 (nI (c + 1)) = dr_st B c st x0 x1) := by
      intro x0 x1 x2 hx
      refine ⟨fun e => ?_, fun e => ?_⟩
      · funext j
        unfold dr_st upd
        rw [hx]
        by_cases j0 : j = 0
        · rw [if_pos j0, if_pos j0]
        · rw [if_neg j0, if_neg j0]
          by_cases j3 : j = 5 + 5 * c
          · rw [if_pos j3, if_neg (show ¬ j = 3 + 5 * c by omega), if_neg (show ¬ j = 4 + 5 * c by omega), if_pos j3]
          · rw [if_neg j3]
            by_cases j2 : j = 4 + 5 * c
            · rw [if_pos j2, if_neg (show ¬ j = 3 + 5 * c by omega), if_pos j2]
            · rw [if_neg j2]
              by_cases j1 : j = 3 + 5 * c
              · rw [if_pos j1, if_pos j1]
              · rw [if_neg j1, if_neg j1, if_neg j2, if_neg j3, if_neg (fun z => z.1 e)]
      · funext j
        unfold dr_st upd
        rw [hx]
        by_cases j0 : j = 0
        · rw [if_pos j0, if_pos j0]
        · rw [if_neg j0, if_neg j0]
          by_cases j4 : j = 7 + 5 * (c - 1)
          · rw [if_pos j4, if_neg (show ¬ j = 3 + 5 * c by omega), if_neg (show ¬ j = 4 + 5 * c by omega), if_neg (show ¬ j = 5 + 5 * c by omega), if_pos ⟨e, by omega⟩]
          · rw [if_neg j4]
            by_cases j3 : j = 5 + 5 * c
            · rw [if_pos j3, if_neg (show ¬ j = 3 + 5 * c by omega), if_neg (show ¬ j = 4 + 5 * c by omega), if_pos j3]
            · rw [if_neg j3]
              by_cases j2 : j = 4 + 5 * c
              · rw [if_pos j2, if_neg (show ¬ j = 3 + 5 * c by omega), if_pos j2]
              · rw [if_neg j2]
                by_cases j1 : j = 3 + 5 * c
                · rw [if_pos j1, if_pos j1]
                · rw [if_neg j1, if_neg j1, if_neg j2, if_neg j3, if_neg (fun z => by omega)]
    obtain ⟨s1, hs1⟩ : ∃ s1 : Nat → Int32, s1 = dr_st B c st (gv (nz sZ) - gv (nz sZ) / 4 * 4) (gv (nz (nz sZ)) - gv (nz (nz sZ)) / 2 * 2) := ⟨_, rfl⟩
    rw [← hs1] at D F
    obtain ⟨mo, hmo⟩ : ∃ mo : Int32, mo = if gv (nz (nz (nz sZ))) - gv (nz (nz (nz sZ))) / 2 * 2 = 0 ∧ c + 1 ≤ most then 1 else 0 := ⟨_, rfl⟩
    have hM : ∀ (v : Option Value) (h' : aH), Go (d + 1) 148 119 [some (.ref 0), some (.int (nI most)), some (.int (if c = B then -4 else nI (c - 1))), none, some (.int (nI c)), some (.int (nI (3 + 5 * c)))] [.int mo] (hM s1 draft kept isKept tape taped pos begun sort fault wrongAt rows places aheads readings isFound now at_ place rank nounBits verbBits inner table next powers things holding patterns (nz (nz (nz sZ))) lanes sizes cells) v h' → Go (d + 1) 148 5 [some (.ref 0), some (.int (nI most)), some (.int (if c = B then -4 else nI (c - 1))), some (.int (1 : Int32)), none, none] [] (hM st draft kept isKept tape taped pos begun sort fault wrongAt rows places aheads readings isFound now at_ place rank nounBits verbBits inner table next powers things holding patterns sZ lanes sizes cells) v h' := by
      intro v h' g
      have g85 : ∀ s0 : Nat → Int32, upd s0 0 (nI (c + 1)) = s1 → s0 0 = nI c → Go (d + 1) 148 85 [some (.ref 0), some (.int (nI most)), some (.int (if c = B then -4 else nI (c - 1))), none, some (.int (nI c)), some (.int (nI (3 + 5 * c)))] [] (hM s0 draft kept isKept tape taped pos begun sort fault wrongAt rows places aheads readings isFound now at_ place rank nounBits verbBits inner table next powers things holding patterns (nz (nz sZ)) lanes sizes cells) v h' := by
        intro s0 e1 e2
        refine b_X9_draws_85 ⟨gv (nz (nz (nz sZ))), nz (nz (nz sZ)), m_gets, ?_⟩
        rw [e2, nI_1, e1]
        have s10 : s1 0 = nI (c + 1) := by rw [← e1, pk_us]
        rw [s10]
        refine ⟨fun z => ?_, fun z => ?_⟩
        · have em : mo = 0 := by rw [hmo, if_neg (fun w => z w.1)]
          rw [em] at g
          exact g
        · by_cases hl : c + 1 ≤ most
          · have em : mo = 1 := by rw [hmo, if_pos ⟨z, hl⟩]
            rw [em] at g
            rw [if_pos (show ¬ nI most < nI (c + 1) from nI_nlt hl (by omega))]
            exact g
          · have em : mo = 0 := by rw [hmo, if_neg (fun w => hl w.2)]
            rw [em] at g
            rw [if_neg (show ¬ ¬ nI most < nI (c + 1) from fun w => w (nI_lt (by omega) (by omega)))]
            exact g
      have i0 : ((3 : Int32) + (5 : Int32) * nI c) + (0 : Int32) = nI (3 + 5 * c) := ix5 c 0
      have i1 : ((3 : Int32) + (5 : Int32) * nI c) + (1 : Int32) = nI (4 + 5 * c) := by
        have := ix5 c 1
        rw [show 3 + 5 * c + 1 = 4 + 5 * c by omega] at this
        exact this
      have i2 : ((3 : Int32) + (5 : Int32) * nI c) + (2 : Int32) = nI (5 + 5 * c) := by
        have := ix5 c 2
        rw [show 3 + 5 * c + 2 = 5 + 5 * c by omega] at this
        exact this
      have ib : (3 : Int32) + (5 : Int32) * nI c = nI (3 + 5 * c) := by
        show nI 3 + nI 5 * nI c = _
        rw [pk_mul, nI_add]
      obtain ⟨es1, es2⟩ := es (gv (nz sZ) - gv (nz sZ) / 4 * 4) (gv (nz (nz sZ)) - gv (nz (nz sZ)) / 2 * 2) _ rfl
      refine b_X9_draws_5 (cn (by decide) ⟨gv (nz sZ), nz sZ, m_gets, ?_⟩)
      rw [h0]
      refine ⟨3 + 5 * c, i0, by omega, gv (nz (nz sZ)), nz (nz sZ), m_gets, 4 + 5 * c, i1, by omega, 5 + 5 * c, i2, by omega, ?_⟩
      rw [ib]
      by_cases e : c = B
      · refine cy (if_pos e) (g85 _ (by rw [hs1]; exact es1 e) ?_)
        rw [pk_un (by omega), pk_un (by omega), pk_un (by omega)]; exact h0
      · have i4 : ((3 : Int32) + (5 : Int32) * nI (c - 1)) + (4 : Int32) = nI (7 + 5 * (c - 1)) := by
          have := ix5 (c - 1) 4
          rw [show 3 + 5 * (c - 1) + 4 = 7 + 5 * (c - 1) by omega] at this
          exact this
        refine cn (by rw [if_neg e]; exact nI_n4 _ (by omega)) ⟨7 + 5 * (c - 1), by rw [if_neg e]; exact i4, by omega, g85 _ (by rw [hs1]; exact es2 e) ?_⟩
        rw [pk_un (by omega), pk_un (by omega), pk_un (by omega), pk_un (by omega)]; exact h0
    have s10 : s1 0 = nI (c + 1) := by rw [hs1]; rfl
    have gadd : Go d 32 0 [some (.ref 8), some (.int (gv (nz sZ) - gv (nz sZ) / 4 * 4)), some (.int (gv (nz (nz sZ)) - gv (nz (nz sZ)) / 2 * 2))] [] (hX tN tB pF pA pT pB dN dO dV dZ dQ dU dW sN sO sV (nz (nz sZ)) sQ sU sW rN rP rK rF rR rT rL rQ mS mT mK mF mG m1 m2 wN wF yN yF iK eN eO eV eZ eQ eU eW eS eB jK fN fO fV fZ fQ fU fW fS fB h0N h0L h0C h1N h1L h1C h2N h2L h2C h3N h3L h3C) none (hX tN tB pF pA pT pB dN dO dV dZ dQ dU dW (nI (c + 1)) sO sV (nz (nz sZ)) (upd sQ c (gv (nz sZ) - gv (nz sZ) / 4 * 4)) (upd sU c (gv (nz (nz sZ)) - gv (nz (nz sZ)) / 2 * 2)) (upd sW c (-4)) rN rP rK rF rR rT rL rQ mS mT mK mF mG m1 m2 wN wF yN yF iK eN eO eV eZ eQ eU eW eS eB jK fN fO fV fZ fQ fU fW fS fB h0N h0L h0C h1N h1L h1C h2N h2L h2C h3N h3L h3C) := b_X4_add_8_0 (pk_le 4 c (fun z => by omega) (fun _ => ⟨c, hN, hc, c, hN, hc, c, hN, hc, rfl, by rw [hN, nI_1]⟩) rfl hN)
    by_cases hend : gv (nz (nz (nz sZ))) - gv (nz (nz (nz sZ))) / 2 * 2 = 0 ∧ c + 1 ≤ most
    · obtain ⟨he1, he2⟩ := hend
      obtain ⟨H2, F2⟩ := dr_more (B := B) (c := c + 1) (by omega) (by omega) D (gv_2 (nz (nz (nz (nz sZ)))))
      rw [Nat.add_sub_cancel] at H2 F2
      obtain ⟨c', sN', sZ', sQ', sU', sW', st', k1, k2, k3, k4, k5, k6, k7, k8⟩ := j_draws (d := d) hm m (c + 1) (tN := tN) (tB := tB) (pF := pF) (pA := pA) (pT := pT) (pB := pB) (dN := dN) (dO := dO) (dV := dV) (dZ := dZ) (dQ := dQ) (dU := dU) (dW := dW) (sN := (nI (c + 1))) (sO := sO) (sV := sV) (sZ := (nz (nz (nz (nz sZ))))) (sQ := (upd sQ c (gv (nz sZ) - gv (nz sZ) / 4 * 4))) (sU := (upd sU c (gv (nz (nz sZ)) - gv (nz (nz sZ)) / 2 * 2))) (sW := (upd (upd sW c (-4)) c (gv (nz (nz (nz (nz sZ)))) - gv (nz (nz (nz (nz sZ)))) / 2 * 2))) (rN := rN) (rP := rP) (rK := rK) (rF := rF) (rR := rR) (rT := rT) (rL := rL) (rQ := rQ) (mS := mS) (mT := mT) (mK := mK) (mF := mF) (mG := mG) (m1 := m1) (m2 := m2) (wN := wN) (wF := wF) (yN := yN) (yF := yF) (iK := iK) (eN := eN) (eO := eO) (eV := eV) (eZ := eZ) (eQ := eQ) (eU := eU) (eW := eW) (eS := eS) (eB := eB) (jK := jK) (fN := fN) (fO := fO) (fV := fV) (fZ := fZ) (fQ := fQ) (fU := fU) (fW := fW) (fS := fS) (fB := fB) (h0N := h0N) (h0L := h0L) (h0C := h0C) (h1N := h1N) (h1L := h1L) (h1C := h1C) (h2N := h2N) (h2L := h2L) (h2C := h2C) (h3N := h3N) (h3L := h3L) (h3C := h3C) (st := (upd s1 (6 + 5 * c) (gv (nz (nz (nz (nz sZ)))) - gv (nz (nz (nz (nz sZ)))) / 2 * 2))) (draft := draft) (kept := kept) (isKept := isKept) (tape := tape) (taped := taped) (pos := pos) (begun := begun) (sort := sort) (fault := fault) (wrongAt := wrongAt) (rows := rows) (places := places) (aheads := aheads) (readings := readings) (isFound := isFound) (now := now) (at_ := at_) (place := place) (rank := rank) (nounBits := nounBits) (verbBits := verbBits) (inner := inner) (table := table) (next := next) (powers := powers) (things := things) (holding := holding) (patterns := patterns) (seeded := (nz (nz (nz (nz sZ))))) (lanes := lanes) (sizes := sizes) (cells := cells) (by omega) (by omega) (by omega) H2 rfl (by rw [pk_un (by omega)]; exact s10) rfl
      refine ⟨c', sN', sZ', sQ', sU', sW', st', k1, k2, b_X4_drawPhrases_2 (pk_le 4 (c - B) (fun z => by omega) (fun _ => ⟨_, _, x_got, _, _, x_got, _, _, _, _, gadd, _, _, x_got, ny he1 (cy (nI_le he2 (by omega)) ⟨_, _, x_got, _, b_X4_makeLatestHost_8_0 (cn (nI_nle (by omega) (by omega)) ⟨c, nI_pred c, hc, rfl, rfl⟩), ?_⟩)⟩)), hM _ _ ?_, k5, k6, k7, (F.tr F2).tr k8⟩
      · rw [nI_1, show c - B + 1 = c + 1 - B by omega]
        exact k3
      · have em : mo = 1 := by rw [hmo, if_pos ⟨he1, he2⟩]
        rw [em]
        refine b_X9_draws_119 (cn (by decide) ⟨_, _, m_gets, 6 + 5 * c, ?_, by omega, ?_⟩)
        · show nI (3 + 5 * c) + nI 3 = _
          rw [nI_add]; congr 1; omega
        · rw [if_neg (show ¬ c + 1 = B by omega), Nat.add_sub_cancel] at k4
          exact k4
    · refine ⟨c + 1, nI (c + 1), nz (nz (nz sZ)), _, _, _, s1, by omega, by omega, b_X4_drawPhrases_2 (pk_le 4 (c - B) (fun z => by omega) (fun _ => ⟨_, _, x_got, _, _, x_got, _, _, _, _, gadd, _, _, x_got, fun _ => ⟨rfl, rfl⟩, fun z => cn (fun w => hend ⟨z, (nI_leI (by omega) (by omega)).mp w⟩) ⟨rfl, rfl⟩⟩)), hM _ _ ?_, rfl, s10, D, F⟩
      have em : mo = 0 := by rw [hmo, if_neg hend]
      rw [em]
      exact b_X9_draws_119 (cy rfl (b_X9_draws_5 (cy rfl ⟨rfl, rfl⟩)))
