/-! holds, reading: both sides alike -/
def wF1 (b : Nat → Bool) (j : Nat) : Int64 := if b j then (Int64.ofNat 18446744073709551615) else 0
theorem wF1_bit {b : Nat → Bool} {j i : Nat} (hi : i < 64) : wd_bit (wF1 b j) i = b j := by
  unfold wF1
  cases b j
  · exact bx_0 i
  · exact bx_m1 hi
theorem wF1_st {b : Bool} {x : Int32} (h : x = if b then 1 else 0) : (if x = (1 : Int32) then (Int64.ofNat 18446744073709551615) else 0) = if b then (Int64.ofNat 18446744073709551615) else 0 := by
  rw [h]
  cases b <;> rfl
theorem m_wf_65 {d k i t : Nat} {b : Nat → Bool} (hk1 : 1 ≤ k) (hk : k ≤ 4) (hi : i < 2) (ht : t < k) : ∀ (m u : Nat) {st draft kept isKept tape : Nat → Int32} {taped pos begun sort fault wrongAt : Int32} {rows places aheads : Nat → Int32} {readings isFound : Int32} {now at_ place rank : Nat → Int32} {nounBits verbBits inner table next : Nat → Int64} {powers : Nat → Int32} {things : Int32} {holding patterns : Nat → Int64} {seeded : Int32} {lanes sizes cells : Nat → Int32}, things = nI k → wd_M st 0 k b → u + m = k → ∃ verbBits' : Nat → Int64, (∀ y, u ≤ y → y < k → verbBits' (16 * i + 4 * t + y) = wF1 b (2 * k + (i * k + t) * k + y)) ∧ (∀ c, (c < 16 * i + 4 * t + u ∨ 16 * i + 4 * t + k ≤ c) → verbBits' c = verbBits c) ∧ ∀ (v : Option Value) (h' : aH), Go (d + 1) 154 20 [some (.ref 0), some (.int (nI i)), some (.int (nI (t + 1))), none] [] (hM st draft kept isKept tape taped pos begun sort fault wrongAt rows places aheads readings isFound now at_ place rank nounBits verbBits' inner table next powers things holding patterns seeded lanes sizes cells) v h' → Go (d + 1) 154 65 [some (.ref 0), some (.int (nI i)), some (.int (nI t)), some (.int (nI u))] [] (hM st draft kept isKept tape taped pos begun sort fault wrongAt rows places aheads readings isFound now at_ place rank nounBits verbBits inner table next powers things holding patterns seeded lanes sizes cells) v h'
  | 0, u, st, draft, kept, isKept, tape, taped, pos, begun, sort, fault, wrongAt, rows, places, aheads, readings, isFound, now, at_, place, rank, nounBits, verbBits, inner, table, next, powers, things, holding, patterns, seeded, lanes, sizes, cells, hT, wm, hu => ⟨verbBits, fun y h1 h2 => by omega, fun _ _ => rfl, fun v h' g => b_X9_worldFacts_65 (pk_le k u (fun _ => by rw [nI_1]; exact g) (fun z => by omega) hT)⟩
  | m + 1, u, st, draft, kept, isKept, tape, taped, pos, begun, sort, fault, wrongAt, rows, places, aheads, readings, isFound, now, at_, place, rank, nounBits, verbBits, inner, table, next, powers, things, holding, patterns, seeded, lanes, sizes, cells, hT, wm, hu => by
    obtain ⟨w1, w2⟩ := wd_verb hk1 hk hi ht (show u < k by omega)
    have ev : st (32 + 16 * i + 4 * t + u) = if b (2 * k + (i * k + t) * k + u) then 1 else 0 := by
      have := wm.2 _ w1
      rw [Nat.zero_add, w2] at this
      exact this
    have e1 : (((32 : Int32) + ((16 : Int32) * nI i)) + ((4 : Int32) * nI t)) + nI u = nI (32 + 16 * i + 4 * t + u) := by
      show ((nI 32 + nI 16 * nI i) + nI 4 * nI t) + nI u = _
      rw [pk_mul, pk_mul, nI_add, nI_add, nI_add]
    have e2 : (((16 : Int32) * nI i) + ((4 : Int32) * nI t)) + nI u = nI (16 * i + 4 * t + u) := by
      show (nI 16 * nI i + nI 4 * nI t) + nI u = _
      rw [pk_mul, pk_mul, nI_add, nI_add]
    obtain ⟨vb, p1, p2, p3⟩ := m_wf_65 (d := d) (b := b) hk1 hk hi ht m (u + 1) (st := st) (draft := draft) (kept := kept) (isKept := isKept) (tape := tape) (taped := taped) (pos := pos) (begun := begun) (sort := sort) (fault := fault) (wrongAt := wrongAt) (rows := rows) (places := places) (aheads := aheads) (readings := readings) (isFound := isFound) (now := now) (at_ := at_) (place := place) (rank := rank) (nounBits := nounBits) (verbBits := (vp_updL verbBits (16 * i + 4 * t + u) (wF1 b (2 * k + (i * k + t) * k + u)))) (inner := inner) (table := table) (next := next) (powers := powers) (things := things) (holding := holding) (patterns := patterns) (seeded := seeded) (lanes := lanes) (sizes := sizes) (cells := cells) hT wm (by omega)
    refine ⟨vb, fun y h1 h2 => ?_, fun c hc => ?_, fun v h' g => b_X9_worldFacts_65 (pk_le k u (fun z => by omega) (fun _ => ⟨_, e1, by omega, _, e2, by omega, ?_⟩) hT)⟩
    · by_cases e : y = u
      · subst e; rw [p2 _ (by omega), pk_uLs]
      · exact p1 y (by omega) h2
    · rw [p2 c (by omega), pk_uLn (by omega)]
    · rw [wF1_st ev, nI_1]
      exact p3 v h' g
def wf_i (k i t : Nat) (b : Nat → Bool) (nounBits verbBits : Nat → Int64) : Prop := ∀ y, y < 2 → ∀ x, x < k → (y < i ∨ (y = i ∧ x < t)) → nounBits (4 * y + x) = wF1 b (y * k + x) ∧ ∀ u, u < k → verbBits (16 * y + 4 * x + u) = wF1 b (2 * k + (y * k + x) * k + u)
theorem m_wf_20 {d k i : Nat} {b : Nat → Bool} (hk1 : 1 ≤ k) (hk : k ≤ 4) (hi : i < 2) : ∀ (m t : Nat) {st draft kept isKept tape : Nat → Int32} {taped pos begun sort fault wrongAt : Int32} {rows places aheads : Nat → Int32} {readings isFound : Int32} {now at_ place rank : Nat → Int32} {nounBits verbBits inner table next : Nat → Int64} {powers : Nat → Int32} {things : Int32} {holding patterns : Nat → Int64} {seeded : Int32} {lanes sizes cells : Nat → Int32}, things = nI k → wd_M st 0 k b → t + m = k → wf_i k i t b nounBits verbBits → ∃ nounBits' verbBits' : Nat → Int64, wf_i k (i + 1) 0 b nounBits' verbBits' ∧ ∀ (v : Option Value) (h' : aH), Go (d + 1) 154 13 [some (.ref 0), some (.int (nI (i + 1))), none, none] [] (hM st draft kept isKept tape taped pos begun sort fault wrongAt rows places aheads readings isFound now at_ place rank nounBits' verbBits' inner table next powers things holding patterns seeded lanes sizes cells) v h' → Go (d + 1) 154 20 [some (.ref 0), some (.int (nI i)), some (.int (nI t)), none] [] (hM st draft kept isKept tape taped pos begun sort fault wrongAt rows places aheads readings isFound now at_ place rank nounBits verbBits inner table next powers things holding patterns seeded lanes sizes cells) v h'
  | 0, t, st, draft, kept, isKept, tape, taped, pos, begun, sort, fault, wrongAt, rows, places, aheads, readings, isFound, now, at_, place, rank, nounBits, verbBits, inner, table, next, powers, things, holding, patterns, seeded, lanes, sizes, cells, hT, wm, ht, I => ⟨nounBits, verbBits, fun y hy x hx hyx => I y hy x hx (by omega), fun v h' g => b_X9_worldFacts_20 (pk_le k t (fun _ => by rw [nI_1]; exact g) (fun z => by omega) hT)⟩
  | m + 1, t, st, draft, kept, isKept, tape, taped, pos, begun, sort, fault, wrongAt, rows, places, aheads, readings, isFound, now, at_, place, rank, nounBits, verbBits, inner, table, next, powers, things, holding, patterns, seeded, lanes, sizes, cells, hT, wm, ht, I => by
    obtain ⟨w1, w2⟩ := wd_noun (k := k) hk1 hi (show t < k by omega)
    have ev : st (24 + 4 * i + t) = if b (i * k + t) then 1 else 0 := by
      have := wm.2 _ w1
      rw [Nat.zero_add, w2] at this
      exact this
    have e1 : (((24 : Int32) + ((4 : Int32) * nI i)) + nI t) = nI (24 + 4 * i + t) := by
      show (nI 24 + nI 4 * nI i) + nI t = _
      rw [pk_mul, nI_add, nI_add]
    have e2 : ((4 : Int32) * nI i) + nI t = nI (4 * i + t) := by
      show nI 4 * nI i + nI t = _
      rw [pk_mul, nI_add]
    obtain ⟨vb, p1, p2, p3⟩ := m_wf_65 (d := d) (b := b) hk1 hk hi (show t < k by omega) k 0 (st := st) (draft := draft) (kept := kept) (isKept := isKept) (tape := tape) (taped := taped) (pos := pos) (begun := begun) (sort := sort) (fault := fault) (wrongAt := wrongAt) (rows := rows) (places := places) (aheads := aheads) (readings := readings) (isFound := isFound) (now := now) (at_ := at_) (place := place) (rank := rank) (nounBits := (vp_updL nounBits (4 * i + t) (wF1 b (i * k + t)))) (verbBits := verbBits) (inner := inner) (table := table) (next := next) (powers := powers) (things := things) (holding := holding) (patterns := patterns) (seeded := seeded) (lanes := lanes) (sizes := sizes) (cells := cells) hT wm (by omega)
    obtain ⟨nb2, vb2, q1, q2⟩ := m_wf_20 (d := d) (b := b) hk1 hk hi m (t + 1) (st := st) (draft := draft) (kept := kept) (isKept := isKept) (tape := tape) (taped := taped) (pos := pos) (begun := begun) (sort := sort) (fault := fault) (wrongAt := wrongAt) (rows := rows) (places := places) (aheads := aheads) (readings := readings) (isFound := isFound) (now := now) (at_ := at_) (place := place) (rank := rank) (nounBits := (vp_updL nounBits (4 * i + t) (wF1 b (i * k + t)))) (verbBits := vb) (inner := inner) (table := table) (next := next) (powers := powers) (things := things) (holding := holding) (patterns := patterns) (seeded := seeded) (lanes := lanes) (sizes := sizes) (cells := cells) hT wm (by omega) (fun y hy x hx hyx => by
      by_cases e : y = i ∧ x = t
      · obtain ⟨rfl, rfl⟩ := e
        exact ⟨pk_uLs, fun u hu => p1 u (by omega) hu⟩
      · obtain ⟨z1, z2⟩ := I y hy x hx (by omega)
        exact ⟨by rw [pk_uLn (by omega)]; exact z1, fun u hu => by rw [p2 _ (by omega)]; exact z2 u hu⟩)
    refine ⟨nb2, vb2, q1, fun v h' g => b_X9_worldFacts_20 (pk_le k t (fun z => by omega) (fun _ => ⟨_, e1, by omega, _, e2, by omega, ?_⟩) hT)⟩
    rw [wF1_st ev]
    exact p3 v h' (q2 v h' g)
theorem m_worldFacts {d k : Nat} {b : Nat → Bool} (hk1 : 1 ≤ k) (hk : k ≤ 4) {st draft kept isKept tape : Nat → Int32} {taped pos begun sort fault wrongAt : Int32} {rows places aheads : Nat → Int32} {readings isFound : Int32} {now at_ place rank : Nat → Int32} {nounBits verbBits inner table next : Nat → Int64} {powers : Nat → Int32} {things : Int32} {holding patterns : Nat → Int64} {seeded : Int32} {lanes sizes cells : Nat → Int32} (wm : wd_M st 0 k b) : ∃ nounBits' verbBits' : Nat → Int64, nb_M k (wF1 b) nounBits' verbBits' ∧ Go (d + 1) 154 0 [some (.ref 0), none, none, none] [] (hM st draft kept isKept tape taped pos begun sort fault wrongAt rows places aheads readings isFound now at_ place rank nounBits verbBits inner table next powers things holding patterns seeded lanes sizes cells) none (hM st draft kept isKept tape taped pos begun sort fault wrongAt rows places aheads readings isFound now at_ place rank nounBits' verbBits' inner table next powers (nI k) holding patterns seeded lanes sizes cells) := by
  obtain ⟨nb1, vb1, q1, g1⟩ := m_wf_20 (d := d) (b := b) (i := 0) hk1 hk (by decide) k 0 (st := st) (draft := draft) (kept := kept) (isKept := isKept) (tape := tape) (taped := taped) (pos := pos) (begun := begun) (sort := sort) (fault := fault) (wrongAt := wrongAt) (rows := rows) (places := places) (aheads := aheads) (readings := readings) (isFound := isFound) (now := now) (at_ := at_) (place := place) (rank := rank) (nounBits := nounBits) (verbBits := verbBits) (inner := inner) (table := table) (next := next) (powers := powers) (things := (nI k)) (holding := holding) (patterns := patterns) (seeded := seeded) (lanes := lanes) (sizes := sizes) (cells := cells) rfl wm (by omega) (fun y hy x hx h => by omega)
  obtain ⟨nb2, vb2, q2, g2⟩ := m_wf_20 (d := d) (b := b) (i := 1) hk1 hk (by decide) k 0 (st := st) (draft := draft) (kept := kept) (isKept := isKept) (tape := tape) (taped := taped) (pos := pos) (begun := begun) (sort := sort) (fault := fault) (wrongAt := wrongAt) (rows := rows) (places := places) (aheads := aheads) (readings := readings) (isFound := isFound) (now := now) (at_ := at_) (place := place) (rank := rank) (nounBits := nb1) (verbBits := vb1) (inner := inner) (table := table) (next := next) (powers := powers) (things := (nI k)) (holding := holding) (patterns := patterns) (seeded := seeded) (lanes := lanes) (sizes := sizes) (cells := cells) rfl wm (by omega) q1
  refine ⟨nb2, vb2, ⟨fun i hi t ht => (q2 i hi t ht (by omega)).1, fun i hi t ht u hu => (q2 i hi t ht (by omega)).2 u hu⟩, b_X9_worldFacts_0 ?_⟩
  have e : st 23 = nI k := wm.1
  rw [e]
  refine b_X9_worldFacts_13 (cn (by decide) (g1 _ _ (b_X9_worldFacts_13 (cn (by decide) (g2 _ _ (b_X9_worldFacts_13 (cy (by decide) ⟨rfl, rfl⟩)))))))
theorem j_holds {d n o : Nat} {tN : Int32} {tB : Nat → Int32} {pF pA pT pB dN dO dV dZ : Int32} {dQ dU dW : Nat → Int32} {sN sO sV sZ : Int32} {sQ sU sW : Nat → Int32} {rN : Int32} {rP rK rF rR rT rL rQ : Nat → Int32} {mS : Int32} {mT : Nat → Int64} {mK : Nat → Int32} {mF : Nat → Int64} {mG m1 m2 : Nat → Int32} {wN : Int32} {wF : Int64} {yN : Int32} {yF : Int64} {iK eN eO eV eZ : Int32} {eQ eU eW : Nat → Int32} {eS : Int32} {eB : Int64} {jK fN fO fV fZ : Int32} {fQ fU fW : Nat → Int32} {fS : Int32} {fB : Int64} {h0N h0L : Int32} {h0C : Nat → Int32} {h1N h1L : Int32} {h1C : Nat → Int32} {h2N h2L : Int32} {h2C : Nat → Int32} {h3N h3L : Int32} {h3C : Nat → Int32} {st draft kept isKept tape : Nat → Int32} {taped pos begun sort fault wrongAt : Int32} {rows places aheads : Nat → Int32} {readings isFound : Int32} {now at_ place rank : Nat → Int32} {nounBits verbBits inner table next : Nat → Int64} {powers : Nat → Int32} {things : Int32} {holding patterns : Nat → Int64} {seeded : Int32} {lanes sizes cells : Nat → Int32} {p0 : Int32} (C : cx n o sN sO sV sQ sU sW rN rP rK rF mK mT st patterns isFound readings rows places aheads holding) (Rw : wd_R wN wF st) : ∃ (v : Int32) (mS1 : Int32) (mF1 : Nat → Int64) (mG1 m11 m21 : Nat → Int32) (rows1 : Nat → Int32) (places1 : Nat → Int32) (aheads1 : Nat → Int32) (readings1 : Int32) (isFound1 : Int32) (now1 : Nat → Int32) (at_1 : Nat → Int32) (place1 : Nat → Int32) (rank1 : Nat → Int32) (nounBits1 : Nat → Int64) (verbBits1 : Nat → Int64) (inner1 : Nat → Int64) (table1 : Nat → Int64) (next1 : Nat → Int64) (powers1 : Nat → Int32) (things1 : Int32) (holding1 : Nat → Int64), Go (d + 12) 68 0 [some (.ref 0), some (.int p0)] [] (hX tN tB pF pA pT pB dN dO dV dZ dQ dU dW sN sO sV sZ sQ sU sW rN rP rK rF rR rT rL rQ mS mT mK mF mG m1 m2 wN wF yN yF iK eN eO eV eZ eQ eU eW eS eB jK fN fO fV fZ fQ fU fW fS fB h0N h0L h0C h1N h1L h1C h2N h2L h2C h3N h3L h3C) (some (.int v)) (hX tN tB pF pA pT pB dN dO dV dZ dQ dU dW sN sO sV sZ sQ sU sW rN rP rK rF rR rT rL rQ mS1 mT mK mF1 mG1 m11 m21 wN wF yN yF iK eN eO eV eZ eQ eU eW eS eB jK fN fO fV fZ fQ fU fW fS fB h0N h0L h0C h1N h1L h1C h2N h2L h2C h3N h3L h3C) ∧ Go (d + 7) 155 0 [some (.ref 0), some (.int p0)] [] (hM st draft kept isKept tape taped pos begun sort fault wrongAt rows places aheads readings isFound now at_ place rank nounBits verbBits inner table next powers things holding patterns seeded lanes sizes cells) (some (.int v)) (hM st draft kept isKept tape taped pos begun sort fault wrongAt rows1 places1 aheads1 readings1 isFound1 now1 at_1 place1 rank1 nounBits1 verbBits1 inner1 table1 next1 powers1 things1 holding1 patterns seeded lanes sizes cells) ∧ fnd_M n o sV sQ sU sW isFound1 readings1 rows1 places1 aheads1 holding1 := by
  obtain ⟨S, T, K, hp, hF⟩ := C
  have hn4 := S.1.2.1
  have h24 := rd_RD_24 n o
  have h1 := rd_RD_1 n (by omega) o S.1.2.2.2.1 S.1.2.2.1
  obtain ⟨rows1, places1, aheads1, readings1, isFound1, now1, at_1, place1, rank1, nounBits1, verbBits1, inner1, table1, next1, powers1, things1, holding1, f, hi, g⟩ := m_isR (d := d) (p0 := p0) (st := st) (draft := draft) (kept := kept) (isKept := isKept) (tape := tape) (taped := taped) (pos := pos) (begun := begun) (sort := sort) (fault := fault) (wrongAt := wrongAt) (rows := rows) (places := places) (aheads := aheads) (readings := readings) (isFound := isFound) (now := now) (at_ := at_) (place := place) (rank := rank) (nounBits := nounBits) (verbBits := verbBits) (inner := inner) (table := table) (next := next) (powers := powers) (things := things) (holding := holding) (patterns := patterns) (seeded := seeded) (lanes := lanes) (sizes := sizes) (cells := cells) S hp hF
  have fin : fnd_M n o sV sQ sU sW isFound1 readings1 rows1 places1 aheads1 holding1 := Or.inr ⟨hi, f⟩
  rcases i_rng p0 (k := (rd_RD n o).length) h1 (by omega) with ⟨a1, a2⟩ | ⟨r, hr, rfl, a1, a2⟩
  · rw [if_neg a2] at g
    rw [← T.1] at a1
    exact ⟨-1, mS, mF, mG, m1, m2, rows1, places1, aheads1, readings1, isFound1, now1, at_1, place1, rank1, nounBits1, verbBits1, inner1, table1, next1, powers1, things1, holding1, b_X8_holds_0 (cn a1 ⟨rfl, rfl⟩), b_X9_holds_0 ⟨0, rows1, places1, aheads1, readings1, isFound1, now1, at_1, place1, rank1, nounBits1, verbBits1, inner1, table1, next1, powers1, things1, holding1, g, ny rfl ⟨rfl, rfl⟩⟩, fin⟩
  rw [if_pos a2] at g
  rw [← T.1] at a1
  obtain ⟨k, b, hk1, hk4, wx, wm⟩ := Rw
  obtain ⟨mS1, mF1, mG1, m11, m21, g1⟩ := x_holdsIn_27 (d := d) (k := k) hr hk1 hk4 (tN := tN) (tB := tB) (pF := pF) (pA := pA) (pT := pT) (pB := pB) (dN := dN) (dO := dO) (dV := dV) (dZ := dZ) (dQ := dQ) (dU := dU) (dW := dW) (sN := sN) (sO := sO) (sV := sV) (sZ := sZ) (sQ := sQ) (sU := sU) (sW := sW) (rN := rN) (rP := rP) (rK := rK) (rF := rF) (rR := rR) (rT := rT) (rL := rL) (rQ := rQ) (mS := mS) (mT := mT) (mK := mK) (mF := mF) (mG := mG) (m1 := m1) (m2 := m2) (wN := wN) (wF := wF) (yN := yN) (yF := yF) (iK := iK) (eN := eN) (eO := eO) (eV := eV) (eZ := eZ) (eQ := eQ) (eU := eU) (eW := eW) (eS := eS) (eB := eB) (jK := jK) (fN := fN) (fO := fO) (fV := fV) (fZ := fZ) (fQ := fQ) (fU := fU) (fW := fW) (fS := fS) (fB := fB) (h0N := h0N) (h0L := h0L) (h0C := h0C) (h1N := h1N) (h1L := h1L) (h1C := h1C) (h2N := h2N) (h2L := h2L) (h2C := h2C) (h3N := h3N) (h3L := h3L) (h3C := h3C) S.1 S.2.1 S.2.2.1 T wx.1
  rw [hvB_congr hk1 hk4 S.1 wx.2] at g1
  obtain ⟨nounBits3, verbBits3, B, g3⟩ := m_worldFacts (d := d + 5) hk1 hk4 (st := st) (draft := draft) (kept := kept) (isKept := isKept) (tape := tape) (taped := taped) (pos := pos) (begun := begun) (sort := sort) (fault := fault) (wrongAt := wrongAt) (rows := rows1) (places := places1) (aheads := aheads1) (readings := readings1) (isFound := isFound1) (now := now1) (at_ := at_1) (place := place1) (rank := rank1) (nounBits := nounBits1) (verbBits := verbBits1) (inner := inner1) (table := table1) (next := next1) (powers := powers1) (things := things1) (holding := holding1) (patterns := patterns) (seeded := seeded) (lanes := lanes) (sizes := sizes) (cells := cells) wm
  obtain ⟨inner4, table4, next4, powers4, g4⟩ := m_holdsIn (d := d + 3) (r := r) (F := wF1 b) hk1 hk4 S.1 (rd_RD_mem hr) (by omega) (st := st) (draft := draft) (kept := kept) (isKept := isKept) (tape := tape) (taped := taped) (pos := pos) (begun := begun) (sort := sort) (fault := fault) (wrongAt := wrongAt) (rows := rows1) (places := places1) (aheads := aheads1) (readings := readings1) (isFound := isFound1) (now := now1) (at_ := at_1) (place := place1) (rank := rank1) (nounBits := nounBits3) (verbBits := verbBits3) (inner := inner1) (table := table1) (next := next1) (powers := powers1) (things := (nI k)) (holding := holding1) (patterns := patterns) (seeded := seeded) (lanes := lanes) (sizes := sizes) (cells := cells) S.2.2.2 B rfl (fun x hx => ⟨(f.1.2 r hr x hx).1, (f.1.2 r hr x hx).2.1⟩)
  have ev : ∀ i, i < 64 → wd_bit (hv n o k sV sQ sU sW ((rd_RD n o).getD r []) (wF1 b)) i = hvB n o k sV sQ sU sW ((rd_RD n o).getD r []) b := fun i hi => by
    rw [hv_bit hi]
    exact hvB_congr hk1 hk4 S.1 (fun j _ => wF1_bit hi)
  refine ⟨_, mS1, mF1, mG1, m11, m21, rows1, places1, aheads1, readings1, isFound1, now1, at_1, place1, rank1, nounBits3, verbBits3, inner4, table4, next4, powers4, nI k, holding1, b_X8_holds_0 (cy a1 ⟨_, mS1, mF1, mG1, m11, m21, g1, rfl, rfl⟩), b_X9_holds_0 ⟨1, rows1, places1, aheads1, readings1, isFound1, now1, at_1, place1, rank1, nounBits1, verbBits1, inner1, table1, next1, powers1, things1, holding1, g, nn (by decide) ⟨nounBits3, verbBits3, nI k, g3, _, inner4, table4, next4, powers4, g4, ?_, rfl⟩⟩, fin⟩
  by_cases h : hvB n o k sV sQ sU sW ((rd_RD n o).getD r []) b = true
  · rw [if_pos h, if_pos (fun z => ?_)]
    have z := (lg_cmp_eq _ _).mp z
    have e0 := ev 0 (by decide)
    rw [z, bx_0, h] at e0
    cases e0
  · have hz : hv n o k sV sQ sU sW ((rd_RD n o).getD r []) (wF1 b) = 0 := bx_ext fun i hi => by
      rw [ev i hi, bx_0]
      exact Bool.eq_false_iff.mpr h
    rw [if_neg h, if_neg (fun z => z ((lg_cmp_eq _ _).mpr hz))]
theorem neg10 {x : Int32} (hx : x < 0) : (x - x / 10 * 10) < 0 ∨ ((x - x / 10 * 10) = 0 ∧ x / 10 < 0) := by
  have hx1 : x.toInt < 0 := by
    rw [Int32.lt_iff_toInt_lt] at hx
    exact hx
  have hlo : -2147483648 ≤ x.toInt := by
    have := Int32.le_toInt x
    omega
  have e10 : (10 : Int32).toInt = 10 := by decide
  have hq : (x / 10).toInt = x.toInt.tdiv 10 := by rw [Int32.toInt_div_of_ne_right _ _ (by decide), e10]
  have hq2 : x.toInt.tdiv 10 = -((-x.toInt) / 10) := by
    have h := Int.neg_tdiv (-x.toInt) 10
    rw [Int.neg_neg] at h
    rw [h, Int.tdiv_eq_ediv_of_nonneg (by omega)]
  have hm : (x / 10 * 10).toInt = (x / 10).toInt * 10 := by
    rw [Int32.toInt_mul, e10]
    exact Int.bmod_eq_of_le (by omega) (by omega)
  have hs : (x - x / 10 * 10).toInt = x.toInt - (x / 10).toInt * 10 := by
    rw [Int32.toInt_sub, hm]
    exact Int.bmod_eq_of_le (by omega) (by omega)
  by_cases h : x.toInt - (x / 10).toInt * 10 = 0
  · refine Or.inr ⟨Int32.toInt_inj.mp (by rw [hs, h]; rfl), ?_⟩
    rw [Int32.lt_iff_toInt_lt]
    show _ < (0 : Int)
    omega
  · refine Or.inl ?_
    rw [Int32.lt_iff_toInt_lt, hs]
    show _ < (0 : Int)
    omega
theorem m_rd_neg {d n : Nat} (hn1 : 1 ≤ n) (hn : n ≤ 4) : ∀ (i : Nat) (x s : Int32) {st draft kept isKept tape : Nat → Int32} {taped pos begun sort fault wrongAt : Int32} {rows places aheads : Nat → Int32} {readings isFound : Int32} {now at_ place rank : Nat → Int32} {nounBits verbBits inner table next : Nat → Int64} {powers : Nat → Int32} {things : Int32} {holding patterns : Nat → Int64} {seeded : Int32} {lanes sizes cells : Nat → Int32}, st 0 = nI n → x < 0 → i ≤ 4 → ∃ now' : Nat → Int32, Go (d + 2) 153 18 [some (.ref 0), none, some (.int x), some (.int s), some (.int (nI i - 1)), none] [] (hM st draft kept isKept tape taped pos begun sort fault wrongAt rows places aheads readings isFound now at_ place rank nounBits verbBits inner table next powers things holding patterns seeded lanes sizes cells) (some (.int (-1 : Int32))) (hM st draft kept isKept tape taped pos begun sort fault wrongAt rows places aheads readings isFound now' at_ place rank nounBits verbBits inner table next powers things holding patterns seeded lanes sizes cells)
  | 0, x, s, st, draft, kept, isKept, tape, taped, pos, begun, sort, fault, wrongAt, rows, places, aheads, readings, isFound, now, at_, place, rank, nounBits, verbBits, inner, table, next, powers, things, holding, patterns, seeded, lanes, sizes, cells, hN, hx, hi => ⟨now, b_X9_reading_18 (cy (by decide) (cn (fun z => by rw [z] at hx; exact absurd hx (by decide)) ⟨rfl, rfl⟩))⟩
  | i + 1, x, s, st, draft, kept, isKept, tape, taped, pos, begun, sort, fault, wrongAt, rows, places, aheads, readings, isFound, now, at_, place, rank, nounBits, verbBits, inner, table, next, powers, things, holding, patterns, seeded, lanes, sizes, cells, hN, hx, hi => by
    have e0 : nI (i + 1) - 1 = nI i := nI_pred i
    have e1 : nI i + (-1 : Int32) = nI i - 1 := (Int32.sub_eq_add_neg _ _).symm
    have en : nI n - 1 = nI (n - 1) := pk_sub (a := n) (b := 1) hn1
    rw [e0]
    rcases neg10 hx with h | ⟨h1, h2⟩
    · exact ⟨now, b_X9_reading_18 (cn (nI_pos (by omega)) (nn (fun z => absurd h (Int32.not_lt.mpr z.1)) ⟨rfl, rfl⟩))⟩
    · obtain ⟨now', g⟩ := m_rd_neg (d := d) hn1 hn i (x / 10) (s ||| ((1 : Int32) <<< ((x - x / 10 * 10) &&& 31))) (st := st) (draft := draft) (kept := kept) (isKept := isKept) (tape := tape) (taped := taped) (pos := pos) (begun := begun) (sort := sort) (fault := fault) (wrongAt := wrongAt) (rows := rows) (places := places) (aheads := aheads) (readings := readings) (isFound := isFound) (now := (upd now i (x - x / 10 * 10))) (at_ := at_) (place := place) (rank := rank) (nounBits := nounBits) (verbBits := verbBits) (inner := inner) (table := table) (next := next) (powers := powers) (things := things) (holding := holding) (patterns := patterns) (seeded := seeded) (lanes := lanes) (sizes := sizes) (cells := cells) hN h2 (by omega)
      have hr : (0 : Int32) ≤ (x - x / 10 * 10) ∧ (x - x / 10 * 10) ≤ st 0 - 1 := by
        rw [h1, hN, en]
        exact ⟨by decide, nI_le (a := 0) (by omega) (by omega)⟩
      by_cases hb : ((s >>> ((x - x / 10 * 10) &&& 31)) &&& (1 : Int32)) = 1
      · exact ⟨now, b_X9_reading_18 (cn (nI_pos (by omega)) (ny hr (ny hb ⟨rfl, rfl⟩)))⟩
      · exact ⟨now', b_X9_reading_18 (cn (nI_pos (by omega)) (ny hr (nn hb ⟨i, rfl, by omega, by rw [e1]; exact g⟩)))⟩
theorem m_rd_l {d n : Nat} (hn1 : 1 ≤ n) (hn : n ≤ 4) : ∀ (i left : Nat) (acc : List Nat) (s : Nat) {st draft kept isKept tape : Nat → Int32} {taped pos begun sort fault wrongAt : Int32} {rows places aheads : Nat → Int32} {readings isFound : Int32} {now at_ place rank : Nat → Int32} {nounBits verbBits inner table next : Nat → Int64} {powers : Nat → Int32} {things : Int32} {holding patterns : Nat → Int64} {seeded : Int32} {lanes sizes cells : Nat → Int32}, st 0 = nI n → left < 2 ^ 31 → sb_ok s acc → i + acc.length = n → (∀ j, i ≤ j → j < n → now j = nI (acc.getD (j - i) 0)) → ∃ now' : Nat → Int32, (match tkl 10 n i left acc with | none => Go (d + 2) 153 18 [some (.ref 0), none, some (.int (nI left)), some (.int (nI s)), some (.int (nI i - 1)), none] [] (hM st draft kept isKept tape taped pos begun sort fault wrongAt rows places aheads readings isFound now at_ place rank nounBits verbBits inner table next powers things holding patterns seeded lanes sizes cells) (some (.int (-1 : Int32))) (hM st draft kept isKept tape taped pos begun sort fault wrongAt rows places aheads readings isFound now' at_ place rank nounBits verbBits inner table next powers things holding patterns seeded lanes sizes cells) | some l => rw_M n l now' ∧ ∃ s' : Int32, ∀ (v : Option Value) (h' : aH), Go (d + 2) 153 18 [some (.ref 0), none, some (.int (0 : Int32)), some (.int s'), some (.int (nI 0 - 1)), none] [] (hM st draft kept isKept tape taped pos begun sort fault wrongAt rows places aheads readings isFound now' at_ place rank nounBits verbBits inner table next powers things holding patterns seeded lanes sizes cells) v h' → Go (d + 2) 153 18 [some (.ref 0), none, some (.int (nI left)), some (.int (nI s)), some (.int (nI i - 1)), none] [] (hM st draft kept isKept tape taped pos begun sort fault wrongAt rows places aheads readings isFound now at_ place rank nounBits verbBits inner table next powers things holding patterns seeded lanes sizes cells) v h')
  | 0, left, acc, s, st, draft, kept, isKept, tape, taped, pos, begun, sort, fault, wrongAt, rows, places, aheads, readings, isFound, now, at_, place, rank, nounBits, verbBits, inner, table, next, powers, things, holding, patterns, seeded, lanes, sizes, cells, hN, hl, hs, hi, hR => by
    refine ⟨now, ?_⟩
    unfold tkl
    by_cases h : left = 0
    · subst h
      rw [if_pos rfl]
      exact ⟨fun j hj => hR j (by omega) hj, nI s, fun v h' g => g⟩
    · rw [if_neg h]
      exact b_X9_reading_18 (cy (by decide) (cn (nI_ne0 (by omega) hl) ⟨rfl, rfl⟩))
  | i + 1, left, acc, s, st, draft, kept, isKept, tape, taped, pos, begun, sort, fault, wrongAt, rows, places, aheads, readings, isFound, now, at_, place, rank, nounBits, verbBits, inner, table, next, powers, things, holding, patterns, seeded, lanes, sizes, cells, hN, hl, hs, hi, hR => by
    have hdm : left / 10 ≤ left := Nat.div_le_self _ _
    have e0 : nI (i + 1) - 1 = nI i := nI_pred i
    have e1 : nI i + (-1 : Int32) = nI i - 1 := (Int32.sub_eq_add_neg _ _).symm
    have en : nI n - 1 = nI (n - 1) := pk_sub (a := n) (b := 1) hn1
    have er : nI left - nI left / (10 : Int32) * (10 : Int32) = nI (left % 10) := pk_rem (a := left) (d := 10) hl (by decide) (by decide)
    have ed : nI left / (10 : Int32) = nI (left / 10) := pk_div (a := left) (d := 10) hl (by decide) (by decide)
    have hmb : left % 10 < 10 := Nat.mod_lt _ (by decide)
    unfold tkl
    rw [e0]
    by_cases h1 : left % 10 < n
    · have hin : (0 : Int32) ≤ nI (left % 10) ∧ nI (left % 10) ≤ st 0 - 1 := by
        rw [hN, en]
        exact ⟨nI_pos' (by omega), nI_le (by omega) (by omega)⟩
      have hbit := cz_4 (w := s) (j := left % 10) (by have := hs.1; omega) (by omega)
      by_cases h2 : left % 10 ∈ acc
      · rw [if_neg (fun z => z.2 h2)]
        refine ⟨now, b_X9_reading_18 ?_⟩
        rw [er, hbit]
        refine cn (nI_pos (by omega)) (ny hin (ny ?_ ⟨rfl, rfl⟩))
        rw [hs.2 _ (by omega), decide_eq_true h2]
        rfl
      · rw [if_pos ⟨h1, h2⟩]
        obtain ⟨now', q⟩ := m_rd_l (d := d) hn1 hn i (left / 10) (left % 10 :: acc) (s ||| 2 ^ (left % 10)) (st := st) (draft := draft) (kept := kept) (isKept := isKept) (tape := tape) (taped := taped) (pos := pos) (begun := begun) (sort := sort) (fault := fault) (wrongAt := wrongAt) (rows := rows) (places := places) (aheads := aheads) (readings := readings) (isFound := isFound) (now := (upd now i (nI (left % 10)))) (at_ := at_) (place := place) (rank := rank) (nounBits := nounBits) (verbBits := verbBits) (inner := inner) (table := table) (next := next) (powers := powers) (things := things) (holding := holding) (patterns := patterns) (seeded := seeded) (lanes := lanes) (sizes := sizes) (cells := cells) hN (by omega) (hs.push (by omega)) (by rw [List.length_cons]; omega) (fun j h3 h4 => by
          by_cases e : j = i
          · subst e; rw [pk_us, Nat.sub_self]; rfl
          · rw [pk_un e, hR j (by omega) h4]
            obtain ⟨k, rfl⟩ : ∃ k, j = i + 1 + k := ⟨j - (i + 1), by omega⟩
            rw [show i + 1 + k - (i + 1) = k by omega, show i + 1 + k - i = k + 1 by omega]
            rfl)
        have step : ∀ (v : Option Value) (h' : aH), Go (d + 2) 153 18 [some (.ref 0), none, some (.int (nI (left / 10))), some (.int (nI (s ||| 2 ^ (left % 10)))), some (.int (nI i - 1)), none] [] (hM st draft kept isKept tape taped pos begun sort fault wrongAt rows places aheads readings isFound (upd now i (nI (left % 10))) at_ place rank nounBits verbBits inner table next powers things holding patterns seeded lanes sizes cells) v h' → Go (d + 2) 153 18 [some (.ref 0), none, some (.int (nI left)), some (.int (nI s)), some (.int (nI i)), none] [] (hM st draft kept isKept tape taped pos begun sort fault wrongAt rows places aheads readings isFound now at_ place rank nounBits verbBits inner table next powers things holding patterns seeded lanes sizes cells) v h' := fun v h' g => by
          refine b_X9_reading_18 ?_
          rw [er, hbit, ed, e1, (sb_or s hs.1 _ (by omega)).1]
          refine cn (nI_pos (by omega)) (ny hin (nn ?_ ⟨i, rfl, by omega, g⟩))
          rw [hs.2 _ (by omega), decide_eq_false h2]
          decide
        refine ⟨now', ?_⟩
        cases ht : tkl 10 n i (left / 10) (left % 10 :: acc) with
        | none =>
          rw [ht] at q
          exact step _ _ q
        | some l =>
          rw [ht] at q
          obtain ⟨q1, s', q2⟩ := q
          exact ⟨q1, s', fun v h' g => step _ _ (q2 v h' g)⟩
    · rw [if_neg (fun z => h1 z.1)]
      refine ⟨now, b_X9_reading_18 ?_⟩
      rw [er]
      refine cn (nI_pos (by omega)) (nn (fun z => ?_) ⟨rfl, rfl⟩)
      have z2 := z.2
      rw [hN, en, nI_leI (by omega) (by omega)] at z2
      omega
theorem l_reading {d n o : Nat} {tN : Int32} {tB : Nat → Int32} {pF pA pT pB dN dO dV dZ : Int32} {dQ dU dW : Nat → Int32} {sN sO sV sZ : Int32} {sQ sU sW : Nat → Int32} {rN : Int32} {rP rK rF rR rT rL rQ : Nat → Int32} {mS : Int32} {mT : Nat → Int64} {mK : Nat → Int32} {mF : Nat → Int64} {mG m1 m2 : Nat → Int32} {wN : Int32} {wF : Int64} {yN : Int32} {yF : Int64} {iK eN eO eV eZ : Int32} {eQ eU eW : Nat → Int32} {eS : Int32} {eB : Int64} {jK fN fO fV fZ : Int32} {fQ fU fW : Nat → Int32} {fS : Int32} {fB : Int64} {h0N h0L : Int32} {h0C : Nat → Int32} {h1N h1L : Int32} {h1C : Nat → Int32} {h2N h2L : Int32} {h2C : Nat → Int32} {h3N h3L : Int32} {h3C : Nat → Int32} {st draft kept isKept tape : Nat → Int32} {taped pos begun sort fault wrongAt : Int32} {rows places aheads : Nat → Int32} {readings isFound : Int32} {now at_ place rank : Nat → Int32} {nounBits verbBits inner table next : Nat → Int64} {powers : Nat → Int32} {things : Int32} {holding patterns : Nat → Int64} {seeded : Int32} {lanes sizes cells : Nat → Int32} {p0 : Int32} (C : cx n o sN sO sV sQ sU sW rN rP rK rF mK mT st patterns isFound readings rows places aheads holding) : ∃ (v : Int32) (rR1 rT1 rL1 rQ1 : Nat → Int32) (rows1 : Nat → Int32) (places1 : Nat → Int32) (aheads1 : Nat → Int32) (readings1 : Int32) (isFound1 : Int32) (now1 : Nat → Int32) (at_1 : Nat → Int32) (place1 : Nat → Int32) (rank1 : Nat → Int32) (nounBits1 : Nat → Int64) (verbBits1 : Nat → Int64) (inner1 : Nat → Int64) (table1 : Nat → Int64) (next1 : Nat → Int64) (powers1 : Nat → Int32) (things1 : Int32) (holding1 : Nat → Int64), Go (d + 3) 67 0 [some (.ref 0), some (.int p0)] [] (hX tN tB pF pA pT pB dN dO dV dZ dQ dU dW sN sO sV sZ sQ sU sW rN rP rK rF rR rT rL rQ mS mT mK mF mG m1 m2 wN wF yN yF iK eN eO eV eZ eQ eU eW eS eB jK fN fO fV fZ fQ fU fW fS fB h0N h0L h0C h1N h1L h1C h2N h2L h2C h3N h3L h3C) (some (.int v)) (hX tN tB pF pA pT pB dN dO dV dZ dQ dU dW sN sO sV sZ sQ sU sW rN rP rK rF rR1 rT1 rL1 rQ1 mS mT mK mF mG m1 m2 wN wF yN yF iK eN eO eV eZ eQ eU eW eS eB jK fN fO fV fZ fQ fU fW fS fB h0N h0L h0C h1N h1L h1C h2N h2L h2C h3N h3L h3C) ∧ Go (d + 7) 153 0 [some (.ref 0), some (.int p0), none, none, none, none] [] (hM st draft kept isKept tape taped pos begun sort fault wrongAt rows places aheads readings isFound now at_ place rank nounBits verbBits inner table next powers things holding patterns seeded lanes sizes cells) (some (.int v)) (hM st draft kept isKept tape taped pos begun sort fault wrongAt rows1 places1 aheads1 readings1 isFound1 now1 at_1 place1 rank1 nounBits1 verbBits1 inner1 table1 next1 powers1 things1 holding1 patterns seeded lanes sizes cells) ∧ fnd_M n o sV sQ sU sW isFound1 readings1 rows1 places1 aheads1 holding1 := by
  obtain ⟨S, T, K, hp, hF⟩ := C
  have hn4 := S.1.2.1
  have h24 := rd_RD_24 n o
  have h1 := rd_RD_1 n (by omega) o S.1.2.2.2.1 S.1.2.2.1
  obtain ⟨rows1, places1, aheads1, readings1, now1, at_1, place1, rank1, nounBits1, verbBits1, inner1, table1, next1, powers1, things1, holding1, f, g⟩ := m_finds (d := d + 1) (st := st) (draft := draft) (kept := kept) (isKept := isKept) (tape := tape) (taped := taped) (pos := pos) (begun := begun) (sort := sort) (fault := fault) (wrongAt := wrongAt) (rows := rows) (places := places) (aheads := aheads) (readings := readings) (isFound := isFound) (now := now) (at_ := at_) (place := place) (rank := rank) (nounBits := nounBits) (verbBits := verbBits) (inner := inner) (table := table) (next := next) (powers := powers) (things := things) (holding := holding) (patterns := patterns) (seeded := seeded) (lanes := lanes) (sizes := sizes) (cells := cells) S hp hF
  obtain ⟨isFound1, hi⟩ : ∃ isFound1 : Int32, isFound1 = 1 := ⟨1, rfl⟩
  rw [← hi] at g
  have fin : fnd_M n o sV sQ sU sW isFound1 readings1 rows1 places1 aheads1 holding1 := Or.inr ⟨hi, f⟩
  have hn2 := S.1.1
  have s0 := S.2.2.2.1
  have hN := S.2.1
  by_cases hneg : p0 < 0
  · obtain ⟨now2, g2⟩ := m_rd_neg (d := d + 5) (n := n) (by omega) hn4 n p0 0 (st := st) (draft := draft) (kept := kept) (isKept := isKept) (tape := tape) (taped := taped) (pos := pos) (begun := begun) (sort := sort) (fault := fault) (wrongAt := wrongAt) (rows := rows1) (places := places1) (aheads := aheads1) (readings := readings1) (isFound := isFound1) (now := now1) (at_ := at_1) (place := place1) (rank := rank1) (nounBits := nounBits1) (verbBits := verbBits1) (inner := inner1) (table := table1) (next := next1) (powers := powers1) (things := things1) (holding := holding1) (patterns := patterns) (seeded := seeded) (lanes := lanes) (sizes := sizes) (cells := cells) s0 hneg (by omega)
    refine ⟨-1, rR, rT, rL, rQ, rows1, places1, aheads1, readings1, isFound1, now2, at_1, place1, rank1, nounBits1, verbBits1, inner1, table1, next1, powers1, things1, holding1, b_X8_reading_0 ⟨0, rR, rT, b_X3_takeFigures_0 (cy hneg ⟨rfl, rfl⟩), ny rfl ⟨rfl, rfl⟩⟩, b_X9_reading_0 ⟨rows1, places1, aheads1, readings1, isFound1, now1, at_1, place1, rank1, nounBits1, verbBits1, inner1, table1, next1, powers1, things1, holding1, g, ?_⟩, fin⟩
    rw [s0]
    exact g2
  obtain ⟨fg, hfg, rfl⟩ := i_lt0 hneg
  obtain ⟨v, rR1, rT1, gx, qx⟩ := x_takeFigures (d := d + 2) (b := 10) (f := fg) hn2 hn4 (by decide) (by decide) (tN := tN) (tB := tB) (pF := pF) (pA := pA) (pT := pT) (pB := pB) (dN := dN) (dO := dO) (dV := dV) (dZ := dZ) (dQ := dQ) (dU := dU) (dW := dW) (sN := sN) (sO := sO) (sV := sV) (sZ := sZ) (sQ := sQ) (sU := sU) (sW := sW) (rN := rN) (rP := rP) (rK := rK) (rF := rF) (rR := rR) (rT := rT) (rL := rL) (rQ := rQ) (mS := mS) (mT := mT) (mK := mK) (mF := mF) (mG := mG) (m1 := m1) (m2 := m2) (wN := wN) (wF := wF) (yN := yN) (yF := yF) (iK := iK) (eN := eN) (eO := eO) (eV := eV) (eZ := eZ) (eQ := eQ) (eU := eU) (eW := eW) (eS := eS) (eB := eB) (jK := jK) (fN := fN) (fO := fO) (fV := fV) (fZ := fZ) (fQ := fQ) (fU := fU) (fW := fW) (fS := fS) (fB := fB) (h0N := h0N) (h0L := h0L) (h0C := h0C) (h1N := h1N) (h1L := h1L) (h1C := h1C) (h2N := h2N) (h2L := h2L) (h2C := h2C) (h3N := h3N) (h3L := h3L) (h3C := h3C) hfg
  obtain ⟨now2, qm⟩ := m_rd_l (d := d + 5) (n := n) (by omega) hn4 n fg [] 0 (st := st) (draft := draft) (kept := kept) (isKept := isKept) (tape := tape) (taped := taped) (pos := pos) (begun := begun) (sort := sort) (fault := fault) (wrongAt := wrongAt) (rows := rows1) (places := places1) (aheads := aheads1) (readings := readings1) (isFound := isFound1) (now := now1) (at_ := at_1) (place := place1) (rank := rank1) (nounBits := nounBits1) (verbBits := verbBits1) (inner := inner1) (table := table1) (next := next1) (powers := powers1) (things := things1) (holding := holding1) (patterns := patterns) (seeded := seeded) (lanes := lanes) (sizes := sizes) (cells := cells) s0 hfg ⟨by decide, fun p _ => by simp⟩ (by simp) (fun j h1 h2 => by omega)
  have gx' : Go (d + 2) 24 0 [some (.ref 12), some (.int (nI fg)), some (.int (10 : Int32)), some (.int sN), none, none, none, none] [] (hX tN tB pF pA pT pB dN dO dV dZ dQ dU dW sN sO sV sZ sQ sU sW rN rP rK rF rR rT rL rQ mS mT mK mF mG m1 m2 wN wF yN yF iK eN eO eV eZ eQ eU eW eS eB jK fN fO fV fZ fQ fU fW fS fB h0N h0L h0C h1N h1L h1C h2N h2L h2C h3N h3L h3C) (some (.int v)) (hX tN tB pF pA pT pB dN dO dV dZ dQ dU dW sN sO sV sZ sQ sU sW rN rP rK rF rR1 rT1 rL rQ mS mT mK mF mG m1 m2 wN wF yN yF iK eN eO eV eZ eQ eU eW eS eB jK fN fO fV fZ fQ fU fW fS fB h0N h0L h0C h1N h1L h1C h2N h2L h2C h3N h3L h3C) := by
    rw [hN]; rw [hN] at gx; exact gx
  cases ht : tkl 10 n n fg [] with
  | none =>
    rw [ht] at qx qm
    refine ⟨-1, rR1, rT1, rL, rQ, rows1, places1, aheads1, readings1, isFound1, now2, at_1, place1, rank1, nounBits1, verbBits1, inner1, table1, next1, powers1, things1, holding1, b_X8_reading_0 ⟨v, rR1, rT1, gx', ny qx ⟨rfl, rfl⟩⟩, b_X9_reading_0 ⟨rows1, places1, aheads1, readings1, isFound1, now1, at_1, place1, rank1, nounBits1, verbBits1, inner1, table1, next1, powers1, things1, holding1, g, ?_⟩, fin⟩
    rw [s0]
    exact qm
  | some l =>
    rw [ht] at qx qm
    obtain ⟨hv1, hl, hrw⟩ := qx
    obtain ⟨hwm, s', qm⟩ := qm
    obtain ⟨rL1, rQ1, x1, x2, x3⟩ := x_placeAll (d := d) hn4 S.1.2.2.2.1 hl (tN := tN) (tB := tB) (pF := pF) (pA := pA) (pT := pT) (pB := pB) (dN := dN) (dO := dO) (dV := dV) (dZ := dZ) (dQ := dQ) (dU := dU) (dW := dW) (sN := sN) (sO := sO) (sV := sV) (sZ := sZ) (sQ := sQ) (sU := sU) (sW := sW) (rN := rN) (rP := rP) (rK := rK) (rF := rF) (rR := rR1) (rT := rT1) (rL := rL) (rQ := rQ) (mS := mS) (mT := mT) (mK := mK) (mF := mF) (mG := mG) (m1 := m1) (m2 := m2) (wN := wN) (wF := wF) (yN := yN) (yF := yF) (iK := iK) (eN := eN) (eO := eO) (eV := eV) (eZ := eZ) (eQ := eQ) (eU := eU) (eW := eW) (eS := eS) (eB := eB) (jK := jK) (fN := fN) (fO := fO) (fV := fV) (fZ := fZ) (fQ := fQ) (fU := fU) (fW := fW) (fS := fS) (fB := fB) (h0N := h0N) (h0L := h0L) (h0C := h0C) (h1N := h1N) (h1L := h1L) (h1C := h1C) (h2N := h2N) (h2L := h2L) (h2C := h2C) (h3N := h3N) (h3L := h3L) (h3C := h3C) hN S.2.2.1 hrw
    have x4 := x_find (d := d + 1) (n := n) (o := o) (acc := rd_RD n o) (l := l) hn4 h24 (tN := tN) (tB := tB) (pF := pF) (pA := pA) (pT := pT) (pB := pB) (dN := dN) (dO := dO) (dV := dV) (dZ := dZ) (dQ := dQ) (dU := dU) (dW := dW) (sN := sN) (sO := sO) (sV := sV) (sZ := sZ) (sQ := sQ) (sU := sU) (sW := sW) (rN := rN) (rP := rP) (rK := rK) (rF := rF) (rR := rR1) (rT := rT1) (rL := rL1) (rQ := rQ1) (mS := mS) (mT := mT) (mK := mK) (mF := mF) (mG := mG) (m1 := m1) (m2 := m2) (wN := wN) (wF := wF) (yN := yN) (yF := yF) (iK := iK) (eN := eN) (eO := eO) (eV := eV) (eZ := eZ) (eQ := eQ) (eU := eU) (eW := eW) (eS := eS) (eB := eB) (jK := jK) (fN := fN) (fO := fO) (fV := fV) (fZ := fZ) (fQ := fQ) (fU := fU) (fW := fW) (fS := fS) (fB := fB) (h0N := h0N) (h0L := h0L) (h0C := h0C) (h1N := h1N) (h1L := h1L) (h1C := h1C) (h2N := h2N) (h2L := h2L) (h2C := h2C) (h3N := h3N) (h3L := h3L) (h3C := h3C) T x1 x2
    obtain ⟨at_3, place3, rank3, m1', m2', m3'⟩ := m_findsPlaces (d := d + 5) hn4 S.1.2.2.2.1 hl (st := st) (draft := draft) (kept := kept) (isKept := isKept) (tape := tape) (taped := taped) (pos := pos) (begun := begun) (sort := sort) (fault := fault) (wrongAt := wrongAt) (rows := rows1) (places := places1) (aheads := aheads1) (readings := readings1) (isFound := isFound1) (now := now2) (at_ := at_1) (place := place1) (rank := rank1) (nounBits := nounBits1) (verbBits := verbBits1) (inner := inner1) (table := table1) (next := next1) (powers := powers1) (things := things1) (holding := holding1) (patterns := patterns) (seeded := seeded) (lanes := lanes) (sizes := sizes) (cells := cells) S.hs hwm
    have m4' := m_found (d := d + 6) (n := n) (o := o) (acc := rd_RD n o) (l := l) hn4 h24 (st := st) (draft := draft) (kept := kept) (isKept := isKept) (tape := tape) (taped := taped) (pos := pos) (begun := begun) (sort := sort) (fault := fault) (wrongAt := wrongAt) (rows := rows1) (places := places1) (aheads := aheads1) (readings := readings1) (isFound := isFound1) (now := now2) (at_ := at_3) (place := place3) (rank := rank3) (nounBits := nounBits1) (verbBits := verbBits1) (inner := inner1) (table := table1) (next := next1) (powers := powers1) (things := things1) (holding := holding1) (patterns := patterns) (seeded := seeded) (lanes := lanes) (sizes := sizes) (cells := cells) s0 f.1 m1' m2'
    have x4' : Go (d + 2) 27 0 [some (.ref 12), some (.int sN), none] [] (hX tN tB pF pA pT pB dN dO dV dZ dQ dU dW sN sO sV sZ sQ sU sW rN rP rK rF rR1 rT1 rL1 rQ1 mS mT mK mF mG m1 m2 wN wF yN yF iK eN eO eV eZ eQ eU eW eS eB jK fN fO fV fZ fQ fU fW fS fB h0N h0L h0C h1N h1L h1C h2N h2L h2C h3N h3L h3C) (some (.int (match rd_find n o (rd_RD n o) l with | none => -4 | some k => nI k))) (hX tN tB pF pA pT pB dN dO dV dZ dQ dU dW sN sO sV sZ sQ sU sW rN rP rK rF rR1 rT1 rL1 rQ1 mS mT mK mF mG m1 m2 wN wF yN yF iK eN eO eV eZ eQ eU eW eS eB jK fN fO fV fZ fQ fU fW fS fB h0N h0L h0C h1N h1L h1C h2N h2L h2C h3N h3L h3C) := by
      rw [hN]; rw [hN] at x4; exact x4
    refine ⟨_, rR1, rT1, rL1, rQ1, rows1, places1, aheads1, readings1, isFound1, now2, at_3, place3, rank3, nounBits1, verbBits1, inner1, table1, next1, powers1, things1, holding1, b_X8_reading_0 ⟨v, rR1, rT1, gx', nn (by rw [hv1]; decide) ⟨rL1, rQ1, x3, _, x4', rfl, rfl⟩⟩, b_X9_reading_0 ⟨rows1, places1, aheads1, readings1, isFound1, now1, at_1, place1, rank1, nounBits1, verbBits1, inner1, table1, next1, powers1, things1, holding1, g, ?_⟩, fin⟩
    rw [s0]
    exact qm _ _ (b_X9_reading_18 (cy (by decide) (cy rfl ⟨at_3, place3, rank3, m3', _, m4', rfl, rfl⟩)))
