/-! keep; the loops of back -/
theorem sn_S.move {n o a b : Nat} {N O V : Int32} {Q U W Q' U' W' f g : Nat → Int32} (S : sn_S n o N O V Q U W f a) (h : ∀ c, c < 23 → g (b + c) = f (a + c)) (hq : ∀ p, p < 4 → Q' p = Q p ∧ U' p = U p ∧ W' p = W p) : sn_S n o N O V Q' U' W' g b := by
  obtain ⟨⟨h1, h2, h3, h4, h5, h6⟩, hN, hO, m1, m2, m3, m4⟩ := S
  refine ⟨⟨h1, h2, h3, h4, h5, fun j hj => ?_⟩, hN, hO, ?_, ?_, ?_, fun j hj => ?_⟩
  · obtain ⟨q1, q2, q3⟩ := hq j (by omega)
    rw [q1, q2, q3]; exact h6 j hj
  · have := h 0 (by omega); rw [Nat.add_zero, Nat.add_zero] at this; rw [this]; exact m1
  · rw [h 1 (by omega)]; exact m2
  · rw [h 2 (by omega)]; exact m3
  · obtain ⟨q1, q2, q3⟩ := hq j (by omega)
    rw [q1, q2, q3]
    have k := m4 j hj
    simp only [Nat.add_assoc] at k ⊢
    rw [h _ (by omega), h _ (by omega), h _ (by omega), h _ (by omega), h _ (by omega)]
    exact k
theorem wd_M_move {k a b : Nat} {e : Nat → Bool} {f g : Nat → Int32} (hk : 1 ≤ k) (hk4 : k ≤ 4) (M : wd_M f a k e) (h : ∀ c, 23 ≤ c → c < 64 → g (b + c) = f (a + c)) : wd_M g b k e := by
  refine ⟨by rw [h 23 (by omega) (by omega)]; exact M.1, fun j hj => ?_⟩
  have := wd_c_rng hk hk4 j hj
  rw [h _ (by omega) (by omega)]
  exact M.2 j hj
/-- one image: the class's, the reference's from place c of its row on -/
def im_R (K : Int32) (N O V : Int32) (Q U W : Nat → Int32) (S : Int32) (B : Int64) (isK : Int32) (kept : Nat → Int32) (c : Nat) : Prop := K = isK ∧ (K = 0 ∨ K = 1) ∧ (K = 1 → (∃ n o, sn_S n o N O V Q U W kept c) ∧ ∃ (k : Nat) (b : Nat → Bool), 1 ≤ k ∧ k ≤ 4 ∧ wd_X S B k b ∧ wd_M kept c k b)
theorem im_R.keep {K N O V S isK isK' : Int32} {B : Int64} {Q U W kept kept' : Nat → Int32} {c : Nat} (R : im_R K N O V Q U W S B isK kept c) (h1 : isK' = isK) (h : ∀ j, j < 64 → kept' (c + j) = kept (c + j)) : im_R K N O V Q U W S B isK' kept' c := by
  obtain ⟨a, b, e⟩ := R
  refine ⟨by rw [h1]; exact a, b, fun q => ?_⟩
  obtain ⟨⟨n, o, s⟩, k, f, hk, hk4, x, m⟩ := e q
  exact ⟨⟨n, o, s.move (fun c hc => h c (by omega)) (fun p _ => ⟨rfl, rfl, rfl⟩)⟩, k, f, hk, hk4, x, wd_M_move hk hk4 m (fun c _ hc => h c hc)⟩
theorem m_keep_l {d z : Nat} {x : Int32} (hz : z < 2) : ∀ (m i : Nat) {st draft kept isKept tape : Nat → Int32} {taped pos begun sort fault wrongAt : Int32} {rows places aheads : Nat → Int32} {readings isFound : Int32} {now at_ place rank : Nat → Int32} {nounBits verbBits inner table next : Nat → Int64} {powers : Nat → Int32} {things : Int32} {holding patterns : Nat → Int64} {seeded : Int32} {lanes sizes cells : Nat → Int32}, i + m = 64 → ∃ kept' : Nat → Int32, (∀ c, i ≤ c → c < 64 → kept' (64 * z + c) = st c) ∧ (∀ c, (c < 64 * z + i ∨ 64 * z + 64 ≤ c) → kept' c = kept c) ∧ Go (d + 1) 171 31 [some (.ref 0), some (.int (nI z)), some (.int x), some (.int (nI i))] [] (hM st draft kept isKept tape taped pos begun sort fault wrongAt rows places aheads readings isFound now at_ place rank nounBits verbBits inner table next powers things holding patterns seeded lanes sizes cells) (some (.int x)) (hM st draft kept' isKept tape taped pos begun sort fault wrongAt rows places aheads readings isFound now at_ place rank nounBits verbBits inner table next powers things holding patterns seeded lanes sizes cells)
  | 0, i, st, draft, kept, isKept, tape, taped, pos, begun, sort, fault, wrongAt, rows, places, aheads, readings, isFound, now, at_, place, rank, nounBits, verbBits, inner, table, next, powers, things, holding, patterns, seeded, lanes, sizes, cells, hi => ⟨kept, fun c h1 h2 => by omega, fun _ _ => rfl, b_X9_keep_31 (pk_le 64 i (fun _ => ⟨rfl, rfl⟩) (fun q => by omega))⟩
  | m + 1, i, st, draft, kept, isKept, tape, taped, pos, begun, sort, fault, wrongAt, rows, places, aheads, readings, isFound, now, at_, place, rank, nounBits, verbBits, inner, table, next, powers, things, holding, patterns, seeded, lanes, sizes, cells, hi => by
    have e2 : (64 : Int32) * nI z + nI i = nI (64 * z + i) := by
      show nI 64 * nI z + nI i = _
      rw [pk_mul, nI_add]
    obtain ⟨k', p1, p2, g⟩ := m_keep_l (d := d) (x := x) hz m (i + 1) (by omega) (st := st) (draft := draft) (kept := (upd kept (64 * z + i) (st i))) (isKept := isKept) (tape := tape) (taped := taped) (pos := pos) (begun := begun) (sort := sort) (fault := fault) (wrongAt := wrongAt) (rows := rows) (places := places) (aheads := aheads) (readings := readings) (isFound := isFound) (now := now) (at_ := at_) (place := place) (rank := rank) (nounBits := nounBits) (verbBits := verbBits) (inner := inner) (table := table) (next := next) (powers := powers) (things := things) (holding := holding) (patterns := patterns) (seeded := seeded) (lanes := lanes) (sizes := sizes) (cells := cells)
    refine ⟨k', fun c h1 h2 => ?_, fun c hc => ?_, b_X9_keep_31 (pk_le 64 i (fun q => by omega) (fun _ => ⟨i, rfl, by omega, 64 * z + i, e2, by omega, by rw [nI_1]; exact g⟩))⟩
    · by_cases e : c = i
      · subst e
        rw [p2 _ (by omega), pk_us]
      · exact p1 c (by omega) h2
    · rw [p2 c (by omega), pk_un (by omega)]
theorem m_back_l {d z : Nat} (hz : z < 2) : ∀ (m i : Nat) {st draft kept isKept tape : Nat → Int32} {taped pos begun sort fault wrongAt : Int32} {rows places aheads : Nat → Int32} {readings isFound : Int32} {now at_ place rank : Nat → Int32} {nounBits verbBits inner table next : Nat → Int64} {powers : Nat → Int32} {things : Int32} {holding patterns : Nat → Int64} {seeded : Int32} {lanes sizes cells : Nat → Int32}, i + m = 64 → ∃ st' : Nat → Int32, (∀ c, i ≤ c → c < 64 → st' c = kept (64 * z + c)) ∧ (∀ c, c < i → st' c = st c) ∧ Go (d + 1) 172 26 [some (.ref 0), some (.int (nI z)), some (.int (nI i))] [] (hM st draft kept isKept tape taped pos begun sort fault wrongAt rows places aheads readings isFound now at_ place rank nounBits verbBits inner table next powers things holding patterns seeded lanes sizes cells) (some (.int (st' 0))) (hM st' draft kept isKept tape taped pos begun sort fault wrongAt rows places aheads readings (0 : Int32) now at_ place rank nounBits verbBits inner table next powers things holding patterns seeded lanes sizes cells)
  | 0, i, st, draft, kept, isKept, tape, taped, pos, begun, sort, fault, wrongAt, rows, places, aheads, readings, isFound, now, at_, place, rank, nounBits, verbBits, inner, table, next, powers, things, holding, patterns, seeded, lanes, sizes, cells, hi => ⟨st, fun c h1 h2 => by omega, fun _ _ => rfl, b_X9_back_26 (pk_le 64 i (fun _ => ⟨rfl, rfl⟩) (fun q => by omega))⟩
  | m + 1, i, st, draft, kept, isKept, tape, taped, pos, begun, sort, fault, wrongAt, rows, places, aheads, readings, isFound, now, at_, place, rank, nounBits, verbBits, inner, table, next, powers, things, holding, patterns, seeded, lanes, sizes, cells, hi => by
    have e2 : (64 : Int32) * nI z + nI i = nI (64 * z + i) := by
      show nI 64 * nI z + nI i = _
      rw [pk_mul, nI_add]
    obtain ⟨s', p1, p2, g⟩ := m_back_l (d := d) hz m (i + 1) (by omega) (st := (upd st i (kept (64 * z + i)))) (draft := draft) (kept := kept) (isKept := isKept) (tape := tape) (taped := taped) (pos := pos) (begun := begun) (sort := sort) (fault := fault) (wrongAt := wrongAt) (rows := rows) (places := places) (aheads := aheads) (readings := readings) (isFound := isFound) (now := now) (at_ := at_) (place := place) (rank := rank) (nounBits := nounBits) (verbBits := verbBits) (inner := inner) (table := table) (next := next) (powers := powers) (things := things) (holding := holding) (patterns := patterns) (seeded := seeded) (lanes := lanes) (sizes := sizes) (cells := cells)
    refine ⟨s', fun c h1 h2 => ?_, fun c hc => ?_, b_X9_back_26 (pk_le 64 i (fun q => by omega) (fun _ => ⟨64 * z + i, e2, by omega, i, rfl, by omega, by rw [nI_1]; exact g⟩))⟩
    · by_cases e : c = i
      · subst e
        rw [p2 _ (by omega), pk_us]
      · exact p1 c (by omega) h2
    · rw [p2 c (by omega), pk_un (by omega)]
theorem upd4 {f g : Nat → Int32} : ∀ p, p < 4 → upd (upd (upd (upd f 0 (g 0)) 1 (g 1)) 2 (g 2)) 3 (g 3) p = g p := by
  intro p hp
  have : p = 0 ∨ p = 1 ∨ p = 2 ∨ p = 3 := by omega
  rcases this with rfl | rfl | rfl | rfl <;> rfl
theorem l_keep {d n o : Nat} {tN : Int32} {tB : Nat → Int32} {pF pA pT pB dN dO dV dZ : Int32} {dQ dU dW : Nat → Int32} {sN sO sV sZ : Int32} {sQ sU sW : Nat → Int32} {rN : Int32} {rP rK rF rR rT rL rQ : Nat → Int32} {mS : Int32} {mT : Nat → Int64} {mK : Nat → Int32} {mF : Nat → Int64} {mG m1 m2 : Nat → Int32} {wN : Int32} {wF : Int64} {yN : Int32} {yF : Int64} {iK eN eO eV eZ : Int32} {eQ eU eW : Nat → Int32} {eS : Int32} {eB : Int64} {jK fN fO fV fZ : Int32} {fQ fU fW : Nat → Int32} {fS : Int32} {fB : Int64} {h0N h0L : Int32} {h0C : Nat → Int32} {h1N h1L : Int32} {h1C : Nat → Int32} {h2N h2L : Int32} {h2C : Nat → Int32} {h3N h3L : Int32} {h3C : Nat → Int32} {st draft kept isKept tape : Nat → Int32} {taped pos begun sort fault wrongAt : Int32} {rows places aheads : Nat → Int32} {readings isFound : Int32} {now at_ place rank : Nat → Int32} {nounBits verbBits inner table next : Nat → Int64} {powers : Nat → Int32} {things : Int32} {holding patterns : Nat → Int64} {seeded : Int32} {lanes sizes cells : Nat → Int32} {p0 : Int32} (S : sn_S n o sN sO sV sQ sU sW st 0) (Rw : wd_R wN wF st) (R0 : im_R iK eN eO eV eQ eU eW eS eB (isKept 0) kept 0) (R1 : im_R jK fN fO fV fQ fU fW fS fB (isKept 1) kept 64) : ∃ (v : Int32) (iK' eN' eO' eV' : Int32) (eQ' eU' eW' : Nat → Int32) (eS' : Int32) (eB' : Int64) (jK' fN' fO' fV' : Int32) (fQ' fU' fW' : Nat → Int32) (fS' : Int32) (fB' : Int64) (isKept' kept' : Nat → Int32), Go (d + 2) 80 0 [some (.ref 0), some (.int p0), none] [] (hX tN tB pF pA pT pB dN dO dV dZ dQ dU dW sN sO sV sZ sQ sU sW rN rP rK rF rR rT rL rQ mS mT mK mF mG m1 m2 wN wF yN yF iK eN eO eV eZ eQ eU eW eS eB jK fN fO fV fZ fQ fU fW fS fB h0N h0L h0C h1N h1L h1C h2N h2L h2C h3N h3L h3C) (some (.int v)) (hX tN tB pF pA pT pB dN dO dV dZ dQ dU dW sN sO sV sZ sQ sU sW rN rP rK rF rR rT rL rQ mS mT mK mF mG m1 m2 wN wF yN yF iK' eN' eO' eV' eZ eQ' eU' eW' eS' eB' jK' fN' fO' fV' fZ fQ' fU' fW' fS' fB' h0N h0L h0C h1N h1L h1C h2N h2L h2C h3N h3L h3C) ∧ Go (d + 1) 171 0 [some (.ref 0), some (.int p0), none, none] [] (hM st draft kept isKept tape taped pos begun sort fault wrongAt rows places aheads readings isFound now at_ place rank nounBits verbBits inner table next powers things holding patterns seeded lanes sizes cells) (some (.int v)) (hM st draft kept' isKept' tape taped pos begun sort fault wrongAt rows places aheads readings isFound now at_ place rank nounBits verbBits inner table next powers things holding patterns seeded lanes sizes cells) ∧ im_R iK' eN' eO' eV' eQ' eU' eW' eS' eB' (isKept' 0) kept' 0 ∧ im_R jK' fN' fO' fV' fQ' fU' fW' fS' fB' (isKept' 1) kept' 64 := by
  rcases i_rng p0 (k := 2) (by decide) (by decide) with ⟨c1, c2⟩ | ⟨z, hz, rfl, c1, c2⟩
  · exact ⟨-1, iK, eN, eO, eV, eQ, eU, eW, eS, eB, jK, fN, fO, fV, fQ, fU, fW, fS, fB, isKept, kept, b_X8_keep_0 ⟨fun _ => ⟨rfl, rfl⟩, fun q => cn (fun q2 => c1 ⟨Int32.not_lt.mp q, q2⟩) ⟨rfl, rfl⟩⟩, b_X9_keep_0 (cn c2 ⟨rfl, rfl⟩), R0, R1⟩
  obtain ⟨k, b, hk, hk4, wx, wm⟩ := Rw
  have hn1 : vp_nar .boolean (1 : Int32) = 1 := rfl
  have hz2 : z = 0 ∨ z = 1 := by omega
  rcases hz2 with rfl | rfl
  · obtain ⟨kept', p1, p2, g⟩ := m_keep_l (d := d) (z := 0) (x := if ¬ (isKept 0) = 0 then (1 : Int32) else 0) (by decide) 64 0 (by decide) (st := st) (draft := draft) (kept := kept) (isKept := (upd isKept 0 (vp_nar .boolean (1 : Int32)))) (tape := tape) (taped := taped) (pos := pos) (begun := begun) (sort := sort) (fault := fault) (wrongAt := wrongAt) (rows := rows) (places := places) (aheads := aheads) (readings := readings) (isFound := isFound) (now := now) (at_ := at_) (place := place) (rank := rank) (nounBits := nounBits) (verbBits := verbBits) (inner := inner) (table := table) (next := next) (powers := powers) (things := things) (holding := holding) (patterns := patterns) (seeded := seeded) (lanes := lanes) (sizes := sizes) (cells := cells)
    refine ⟨if ¬ (isKept 0) = 0 then (1 : Int32) else 0, 1, sN, sO, sV, upd (upd (upd (upd eQ 0 (sQ 0)) 1 (sQ 1)) 2 (sQ 2)) 3 (sQ 3), upd (upd (upd (upd eU 0 (sU 0)) 1 (sU 1)) 2 (sU 2)) 3 (sU 3), upd (upd (upd (upd eW 0 (sW 0)) 1 (sW 1)) 2 (sW 2)) 3 (sW 3), wN, wF, jK, fN, fO, fV, fQ, fU, fW, fS, fB, upd isKept 0 (vp_nar .boolean (1 : Int32)), kept', b_X8_keep_0 (cn (by decide) (cy (by decide) (b_X8_keep_0_11 ⟨_, _, _, _, _, _, b_X4_copyFrom_31_8_0 ⟨rfl, rfl⟩, _, _, b_X7_copyFrom_35_27_0 ⟨rfl, rfl⟩, by rw [R0.1], rfl⟩))), b_X9_keep_0 (cy c2 ⟨0, rfl, by decide, 0, rfl, by decide, g⟩), ?_, R1.keep (pk_un (by decide)) (fun j hj => p2 _ (by omega))⟩
    refine ⟨by rw [pk_us]; rfl, Or.inr rfl, fun _ => ⟨⟨n, o, S.move (fun c hc => ?_) (fun p hp => ⟨upd4 p hp, upd4 p hp, upd4 p hp⟩)⟩, k, b, hk, hk4, wx, wd_M_move hk hk4 wm (fun c hc1 hc => ?_)⟩⟩
    · simpa using p1 c (by omega) (by omega)
    · simpa using p1 c (by omega) (by omega)
  · obtain ⟨kept', p1, p2, g⟩ := m_keep_l (d := d) (z := 1) (x := if ¬ (isKept 1) = 0 then (1 : Int32) else 0) (by decide) 64 0 (by decide) (st := st) (draft := draft) (kept := kept) (isKept := (upd isKept 1 (vp_nar .boolean (1 : Int32)))) (tape := tape) (taped := taped) (pos := pos) (begun := begun) (sort := sort) (fault := fault) (wrongAt := wrongAt) (rows := rows) (places := places) (aheads := aheads) (readings := readings) (isFound := isFound) (now := now) (at_ := at_) (place := place) (rank := rank) (nounBits := nounBits) (verbBits := verbBits) (inner := inner) (table := table) (next := next) (powers := powers) (things := things) (holding := holding) (patterns := patterns) (seeded := seeded) (lanes := lanes) (sizes := sizes) (cells := cells)
    refine ⟨if ¬ (isKept 1) = 0 then (1 : Int32) else 0, iK, eN, eO, eV, eQ, eU, eW, eS, eB, 1, sN, sO, sV, upd (upd (upd (upd fQ 0 (sQ 0)) 1 (sQ 1)) 2 (sQ 2)) 3 (sQ 3), upd (upd (upd (upd fU 0 (sU 0)) 1 (sU 1)) 2 (sU 2)) 3 (sU 3), upd (upd (upd (upd fW 0 (sW 0)) 1 (sW 1)) 2 (sW 2)) 3 (sW 3), wN, wF, upd isKept 1 (vp_nar .boolean (1 : Int32)), kept', b_X8_keep_0 (cn (by decide) (cy (by decide) (b_X8_keep_1_11 ⟨_, _, _, _, _, _, b_X4_copyFrom_37_8_0 ⟨rfl, rfl⟩, _, _, b_X7_copyFrom_41_27_0 ⟨rfl, rfl⟩, by rw [R1.1], rfl⟩))), b_X9_keep_0 (cy c2 ⟨1, rfl, by decide, 1, rfl, by decide, g⟩), R0.keep (pk_un (by decide)) (fun j hj => p2 _ (by omega)), ?_⟩
    refine ⟨by rw [pk_us]; rfl, Or.inr rfl, fun _ => ⟨⟨n, o, S.move (fun c hc => ?_) (fun p hp => ⟨upd4 p hp, upd4 p hp, upd4 p hp⟩)⟩, k, b, hk, hk4, wx, wd_M_move hk hk4 wm (fun c hc1 hc => ?_)⟩⟩
    · simpa using p1 c (by omega) (by omega)
    · simpa using p1 c (by omega) (by omega)
