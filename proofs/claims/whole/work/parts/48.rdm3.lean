/-! readings: the reference's list -/
theorem m_f64 {d n c : Nat} (hn : n ≤ 4) (hc : c < 24) : ∀ (m p : Nat) {st draft kept isKept tape : Nat → Int32} {taped pos begun sort fault wrongAt : Int32} {rows places aheads : Nat → Int32} {readings isFound : Int32} {now at_ place rank : Nat → Int32} {nounBits verbBits inner table next : Nat → Int64} {powers : Nat → Int32} {things : Int32} {holding patterns : Nat → Int64} {seeded : Int32} {lanes sizes cells : Nat → Int32}, st 0 = nI n → readings = nI c → p + m = n → ∃ rows' places' aheads' : Nat → Int32, (∀ j, (j < 4 * c + p ∨ 4 * c + 4 ≤ j) → places' j = places j ∧ aheads' j = aheads j ∧ rows' j = rows j) ∧ (∀ j, p ≤ j → j < n → places' (4 * c + j) = place j ∧ aheads' (4 * c + j) = rank j ∧ rows' (4 * c + j) = now j) ∧ ∀ (v : Option Value) (h' : aH) (r2 : Int32) (now2 : Nat → Int32), Go d 122 0 [some (.ref 0), none, none, none, none] [] (hM st draft kept isKept tape taped pos begun sort fault wrongAt rows' places' aheads' (nI (c + 1)) isFound now at_ place rank nounBits verbBits inner table next powers things holding patterns seeded lanes sizes cells) (some (.int r2)) (hM st draft kept isKept tape taped pos begun sort fault wrongAt rows' places' aheads' (nI (c + 1)) isFound now2 at_ place rank nounBits verbBits inner table next powers things holding patterns seeded lanes sizes cells) → Go (d + 1) 124 45 [some (.ref 0), some (.int r2), none] [] (hM st draft kept isKept tape taped pos begun sort fault wrongAt rows' places' aheads' (nI (c + 1)) isFound now2 at_ place rank nounBits verbBits inner table next powers things holding patterns seeded lanes sizes cells) v h' → Go (d + 1) 124 64 [some (.ref 0), none, some (.int (nI p))] [] (hM st draft kept isKept tape taped pos begun sort fault wrongAt rows places aheads readings isFound now at_ place rank nounBits verbBits inner table next powers things holding patterns seeded lanes sizes cells) v h'
  | 0, p, st, draft, kept, isKept, tape, taped, pos, begun, sort, fault, wrongAt, rows, places, aheads, readings, isFound, now, at_, place, rank, nounBits, verbBits, inner, table, next, powers, things, holding, patterns, seeded, lanes, sizes, cells, hN, hR, hp => by
    refine ⟨rows, places, aheads, fun _ _ => ⟨rfl, rfl, rfl⟩, fun j h1 h2 => by omega, fun v h' r2 now2 g1 g2 => b_X9_finds_64 (pk_le n p (fun _ => ⟨r2, now2, ?_, ?_⟩) (fun q => by omega) hN)⟩
    · rw [hR, nI_1]; exact g1
    · rw [hR, nI_1]; exact g2
  | m + 1, p, st, draft, kept, isKept, tape, taped, pos, begun, sort, fault, wrongAt, rows, places, aheads, readings, isFound, now, at_, place, rank, nounBits, verbBits, inner, table, next, powers, things, holding, patterns, seeded, lanes, sizes, cells, hN, hR, hp => by
    have e : (4 : Int32) * readings + nI p = nI (4 * c + p) := by rw [hR, ixl]
    obtain ⟨rows', places', aheads', q1, q2, q3⟩ := m_f64 (d := d) (c := c) hn hc m (p + 1) (st := st) (draft := draft) (kept := kept) (isKept := isKept) (tape := tape) (taped := taped) (pos := pos) (begun := begun) (sort := sort) (fault := fault) (wrongAt := wrongAt) (rows := (upd rows (4 * c + p) (now p))) (places := (upd places (4 * c + p) (place p))) (aheads := (upd aheads (4 * c + p) (rank p))) (readings := readings) (isFound := isFound) (now := now) (at_ := at_) (place := place) (rank := rank) (nounBits := nounBits) (verbBits := verbBits) (inner := inner) (table := table) (next := next) (powers := powers) (things := things) (holding := holding) (patterns := patterns) (seeded := seeded) (lanes := lanes) (sizes := sizes) (cells := cells) hN hR (by omega)
    refine ⟨rows', places', aheads', fun j hj => ?_, fun j h1 h2 => ?_, fun v h' r2 now2 g1 g2 => b_X9_finds_64 (pk_le n p (fun q => by omega) (fun _ => ⟨p, rfl, by omega, _, e, by omega, p, rfl, by omega, _, e, by omega, p, rfl, by omega, _, e, by omega, by rw [nI_1]; exact q3 v h' r2 now2 g1 g2⟩) hN)⟩
    · obtain ⟨a, b, c⟩ := q1 j (by omega)
      rw [a, b, c, pk_un (by omega), pk_un (by omega), pk_un (by omega)]
      exact ⟨rfl, rfl, rfl⟩
    · by_cases e : j = p
      · subst e
        obtain ⟨a, b, c⟩ := q1 _ (Or.inl (show 4 * c + j < 4 * c + (j + 1) by omega))
        rw [a, b, c, pk_us, pk_us, pk_us]
        exact ⟨rfl, rfl, rfl⟩
      · exact q2 j (by omega) h2
theorem fr_lt : ∀ (P : Nat → Bool) (m i k : Nat), fr P m i = some k → k < i + m := by
  intro P m
  induction m with
  | zero => intro i k h; cases h
  | succ m ih =>
    intro i k h
    unfold fr at h
    split at h
    · cases h; omega
    · have := ih (i + 1) k h; omega
theorem tb_M.push {n o : Nat} {acc : List (List Nat)} {l : List Nat} {readings : Int32} {rows places aheads rows' places' aheads' place rank now : Nat → Int32} (hn : n ≤ 4) (T : tb_M n o acc readings rows places aheads) (q1 : ∀ j, (j < 4 * acc.length + 0 ∨ 4 * acc.length + 4 ≤ j) → places' j = places j ∧ aheads' j = aheads j ∧ rows' j = rows j) (q2 : ∀ j, 0 ≤ j → j < n → places' (4 * acc.length + j) = place j ∧ aheads' (4 * acc.length + j) = rank j ∧ rows' (4 * acc.length + j) = now j) (hL : ∀ y, y < n → place y = cv (rd_pl n o l y)) (hQ : ∀ y, y < n → rank y = nI (rd_rk n o l y)) (hR : rw_M n l now) : tb_M n o (acc ++ [l]) (nI (acc.length + 1)) rows' places' aheads' := by
  refine ⟨by rw [List.length_append]; rfl, fun r hr p hp => ?_⟩
  rw [List.length_append, List.length_singleton] at hr
  by_cases e : r = acc.length
  · subst e
    obtain ⟨a, b, c⟩ := q2 p (by omega) hp
    have e1 : (acc ++ [l]).getD acc.length [] = l := by simp
    rw [a, b, c, hL p hp, hQ p hp, hR p hp, e1]
    exact ⟨rfl, rfl, rfl⟩
  · obtain ⟨a, b, c⟩ := q1 (4 * r + p) (by omega)
    have e1 : (acc ++ [l]).getD r [] = acc.getD r [] := by
      rw [List.getD_eq_getElem?_getD, List.getElem?_append_left (by omega), List.getD_eq_getElem?_getD]
    rw [a, b, c, e1]
    exact T.2 r (by omega) p hp
theorem m_f45 {d n o : Nat} (hn2 : 2 ≤ n) (hn : n ≤ 4) (ho : o < n) : ∀ (m k : Nat) {st draft kept isKept tape : Nat → Int32} {taped pos begun sort fault wrongAt : Int32} {rows places aheads : Nat → Int32} {readings isFound : Int32} {now at_ place rank : Nat → Int32} {nounBits verbBits inner table next : Nat → Int64} {powers : Nat → Int32} {things : Int32} {holding patterns : Nat → Int64} {seeded : Int32} {lanes sizes cells : Nat → Int32}, hs_M n o st → k + m = (rd_perms n).length → (1 ≤ m → rw_M n ((rd_perms n).getD k []) now) → tb_M n o (rd_acc n o k) readings rows places aheads → ∃ (readings' : Int32) (rows' places' aheads' now' at' place' rank' : Nat → Int32), tb_M n o (rd_RD n o) readings' rows' places' aheads' ∧ ∀ (v : Option Value) (h' : aH), Go (d + 2) 124 157 [some (.ref 0), none, some (.int (0 : Int32))] [] (hM st draft kept isKept tape taped pos begun sort fault wrongAt rows' places' aheads' readings' isFound now' at' place' rank' nounBits verbBits inner table next powers things holding patterns seeded lanes sizes cells) v h' → Go (d + 2) 124 45 [some (.ref 0), some (.int (if k < (rd_perms n).length then 1 else 0)), none] [] (hM st draft kept isKept tape taped pos begun sort fault wrongAt rows places aheads readings isFound now at_ place rank nounBits verbBits inner table next powers things holding patterns seeded lanes sizes cells) v h'
  | 0, k, st, draft, kept, isKept, tape, taped, pos, begun, sort, fault, wrongAt, rows, places, aheads, readings, isFound, now, at_, place, rank, nounBits, verbBits, inner, table, next, powers, things, holding, patterns, seeded, lanes, sizes, cells, hH, hk, hw, T => by
    have : k = (rd_perms n).length := by omega
    subst this
    refine ⟨readings, rows, places, aheads, now, at_, place, rank, T, fun v h' g => b_X9_finds_45 ?_⟩
    rw [if_neg (by omega)]
    exact cy rfl g
  | m + 1, k, st, draft, kept, isKept, tape, taped, pos, begun, sort, fault, wrongAt, rows, places, aheads, readings, isFound, now, at_, place, rank, nounBits, verbBits, inner, table, next, powers, things, holding, patterns, seeded, lanes, sizes, cells, hH, hk, hw, T => by
    have hmem : (rd_perms n).getD k [] ∈ rd_perms n := by
      rw [List.getD_eq_getElem?_getD, List.getElem?_eq_getElem (by omega)]
      exact List.getElem_mem _
    have hw := hw (by omega)
    have hp24 := rd_perms_len n
    have hlen := rd_acc_len n o k
    obtain ⟨at1, pl1, rk1, a1, a2, g1⟩ := m_findsPlaces (d := d) hn ho hmem (st := st) (draft := draft) (kept := kept) (isKept := isKept) (tape := tape) (taped := taped) (pos := pos) (begun := begun) (sort := sort) (fault := fault) (wrongAt := wrongAt) (rows := rows) (places := places) (aheads := aheads) (readings := readings) (isFound := isFound) (now := now) (at_ := at_) (place := place) (rank := rank) (nounBits := nounBits) (verbBits := verbBits) (inner := inner) (table := table) (next := next) (powers := powers) (things := things) (holding := holding) (patterns := patterns) (seeded := seeded) (lanes := lanes) (sizes := sizes) (cells := cells) hH hw
    have g2 := m_found (d := d + 1) (n := n) (o := o) (acc := rd_acc n o k) (l := (rd_perms n).getD k []) hn (by omega) (st := st) (draft := draft) (kept := kept) (isKept := isKept) (tape := tape) (taped := taped) (pos := pos) (begun := begun) (sort := sort) (fault := fault) (wrongAt := wrongAt) (rows := rows) (places := places) (aheads := aheads) (readings := readings) (isFound := isFound) (now := now) (at_ := at1) (place := pl1) (rank := rk1) (nounBits := nounBits) (verbBits := verbBits) (inner := inner) (table := table) (next := next) (powers := powers) (things := things) (holding := holding) (patterns := patterns) (seeded := seeded) (lanes := lanes) (sizes := sizes) (cells := cells) hH.1 T a1 a2
    have hs : rd_acc n o (k + 1) = rd_stp n o (rd_acc n o k) ((rd_perms n).getD k []) := rfl
    cases hf : rd_find n o (rd_acc n o k) ((rd_perms n).getD k []) with
    | some r =>
      rw [hf] at g2
      have hr := fr_lt _ _ _ _ hf
      obtain ⟨now2, g3, w3⟩ := m_hasNext (d := d) (k := k) hn2 hn (by omega) (st := st) (draft := draft) (kept := kept) (isKept := isKept) (tape := tape) (taped := taped) (pos := pos) (begun := begun) (sort := sort) (fault := fault) (wrongAt := wrongAt) (rows := rows) (places := places) (aheads := aheads) (readings := readings) (isFound := isFound) (now := now) (at_ := at1) (place := pl1) (rank := rk1) (nounBits := nounBits) (verbBits := verbBits) (inner := inner) (table := table) (next := next) (powers := powers) (things := things) (holding := holding) (patterns := patterns) (seeded := seeded) (lanes := lanes) (sizes := sizes) (cells := cells) hH.1 hw
      have ha : rd_acc n o (k + 1) = rd_acc n o k := by rw [hs]; unfold rd_stp; rw [hf]; rfl
      rw [← ha] at T
      obtain ⟨readings', rows', places', aheads', now', at', place', rank', t, g⟩ := m_f45 (d := d) hn2 hn ho m (k + 1) (st := st) (draft := draft) (kept := kept) (isKept := isKept) (tape := tape) (taped := taped) (pos := pos) (begun := begun) (sort := sort) (fault := fault) (wrongAt := wrongAt) (rows := rows) (places := places) (aheads := aheads) (readings := readings) (isFound := isFound) (now := now2) (at_ := at1) (place := pl1) (rank := rk1) (nounBits := nounBits) (verbBits := verbBits) (inner := inner) (table := table) (next := next) (powers := powers) (things := things) (holding := holding) (patterns := patterns) (seeded := seeded) (lanes := lanes) (sizes := sizes) (cells := cells) hH (by omega) (fun q => w3 (by omega)) T
      refine ⟨readings', rows', places', aheads', now', at', place', rank', t, fun v h' gg => b_X9_finds_45 ?_⟩
      rw [if_pos (by omega)]
      exact cn (by decide) ⟨at1, pl1, rk1, g1, _, g2, nn (nI_n4 r (by omega)) ⟨_, now2, g3, g v h' gg⟩⟩
    | none =>
      rw [hf] at g2
      have ha : rd_acc n o (k + 1) = rd_acc n o k ++ [(rd_perms n).getD k []] := by rw [hs]; unfold rd_stp; rw [hf]; rfl
      obtain ⟨rows1, places1, aheads1, q1, q2, q3⟩ := m_f64 (d := d + 1) (n := n) (c := (rd_acc n o k).length) hn (by omega) n 0 (st := st) (draft := draft) (kept := kept) (isKept := isKept) (tape := tape) (taped := taped) (pos := pos) (begun := begun) (sort := sort) (fault := fault) (wrongAt := wrongAt) (rows := rows) (places := places) (aheads := aheads) (readings := readings) (isFound := isFound) (now := now) (at_ := at1) (place := pl1) (rank := rk1) (nounBits := nounBits) (verbBits := verbBits) (inner := inner) (table := table) (next := next) (powers := powers) (things := things) (holding := holding) (patterns := patterns) (seeded := seeded) (lanes := lanes) (sizes := sizes) (cells := cells) hH.1 T.1 (by omega)
      have T2 := T.push hn q1 q2 a1 a2 hw
      rw [← ha] at T2
      obtain ⟨now2, g3, w3⟩ := m_hasNext (d := d) (k := k) hn2 hn (by omega) (st := st) (draft := draft) (kept := kept) (isKept := isKept) (tape := tape) (taped := taped) (pos := pos) (begun := begun) (sort := sort) (fault := fault) (wrongAt := wrongAt) (rows := rows1) (places := places1) (aheads := aheads1) (readings := (nI ((rd_acc n o k).length + 1))) (isFound := isFound) (now := now) (at_ := at1) (place := pl1) (rank := rk1) (nounBits := nounBits) (verbBits := verbBits) (inner := inner) (table := table) (next := next) (powers := powers) (things := things) (holding := holding) (patterns := patterns) (seeded := seeded) (lanes := lanes) (sizes := sizes) (cells := cells) hH.1 hw
      obtain ⟨readings', rows', places', aheads', now', at', place', rank', t, g⟩ := m_f45 (d := d) hn2 hn ho m (k + 1) (st := st) (draft := draft) (kept := kept) (isKept := isKept) (tape := tape) (taped := taped) (pos := pos) (begun := begun) (sort := sort) (fault := fault) (wrongAt := wrongAt) (rows := rows1) (places := places1) (aheads := aheads1) (readings := (nI ((rd_acc n o k).length + 1))) (isFound := isFound) (now := now2) (at_ := at1) (place := pl1) (rank := rk1) (nounBits := nounBits) (verbBits := verbBits) (inner := inner) (table := table) (next := next) (powers := powers) (things := things) (holding := holding) (patterns := patterns) (seeded := seeded) (lanes := lanes) (sizes := sizes) (cells := cells) hH (by omega) (fun q => w3 (by omega)) T2
      refine ⟨readings', rows', places', aheads', now', at', place', rank', t, fun v h' gg => b_X9_finds_45 ?_⟩
      rw [if_pos (by omega)]
      exact cn (by decide) ⟨at1, pl1, rk1, g1, _, g2, ny rfl (q3 v h' _ now2 g3 (g v h' gg))⟩
theorem rd_first : ∀ n, n < 5 → 2 ≤ n → 1 ≤ (rd_perms n).length ∧ ∀ i, i < n → ((rd_perms n).getD 0 []).getD i 0 = i := by decide +kernel
theorem m_f20 {d n o : Nat} (hn2 : 2 ≤ n) (hn : n ≤ 4) (ho : o < n) {st draft kept isKept tape : Nat → Int32} {taped pos begun sort fault wrongAt : Int32} {rows places aheads : Nat → Int32} {readings isFound : Int32} {now at_ place rank : Nat → Int32} {nounBits verbBits inner table next : Nat → Int64} {powers : Nat → Int32} {things : Int32} {holding patterns : Nat → Int64} {seeded : Int32} {lanes sizes cells : Nat → Int32} (hH : hs_M n o st) (hR : readings = 0) : ∃ (readings' : Int32) (rows' places' aheads' now' at' place' rank' : Nat → Int32), tb_M n o (rd_RD n o) readings' rows' places' aheads' ∧ ∀ (v : Option Value) (h' : aH), Go (d + 2) 124 157 [some (.ref 0), none, some (.int (0 : Int32))] [] (hM st draft kept isKept tape taped pos begun sort fault wrongAt rows' places' aheads' readings' isFound now' at' place' rank' nounBits verbBits inner table next powers things holding patterns seeded lanes sizes cells) v h' → Go (d + 2) 124 20 [some (.ref 0), some (.int (0 : Int32)), none] [] (hM st draft kept isKept tape taped pos begun sort fault wrongAt rows places aheads readings isFound now at_ place rank nounBits verbBits inner table next powers things holding patterns seeded lanes sizes cells) v h' := by
  have key : ∀ (m i : Nat) (now : Nat → Int32), i + m = n → (∀ j, j < i → now j = nI j) → ∃ (readings' : Int32) (rows' places' aheads' now' at' place' rank' : Nat → Int32), tb_M n o (rd_RD n o) readings' rows' places' aheads' ∧ ∀ (v : Option Value) (h' : aH), Go (d + 2) 124 157 [some (.ref 0), none, some (.int (0 : Int32))] [] (hM st draft kept isKept tape taped pos begun sort fault wrongAt rows' places' aheads' readings' isFound now' at' place' rank' nounBits verbBits inner table next powers things holding patterns seeded lanes sizes cells) v h' → Go (d + 2) 124 20 [some (.ref 0), some (.int (nI i)), none] [] (hM st draft kept isKept tape taped pos begun sort fault wrongAt rows places aheads readings isFound now at_ place rank nounBits verbBits inner table next powers things holding patterns seeded lanes sizes cells) v h' := by
    intro m
    induction m with
    | zero =>
      intro i now hi hw
      obtain ⟨f1, f2⟩ := rd_first n (by omega) hn2
      obtain ⟨readings', rows', places', aheads', now', at', place', rank', t, g⟩ := m_f45 (d := d) hn2 hn ho (rd_perms n).length 0 (st := st) (draft := draft) (kept := kept) (isKept := isKept) (tape := tape) (taped := taped) (pos := pos) (begun := begun) (sort := sort) (fault := fault) (wrongAt := wrongAt) (rows := rows) (places := places) (aheads := aheads) (readings := readings) (isFound := isFound) (now := now) (at_ := at_) (place := place) (rank := rank) (nounBits := nounBits) (verbBits := verbBits) (inner := inner) (table := table) (next := next) (powers := powers) (things := things) (holding := holding) (patterns := patterns) (seeded := seeded) (lanes := lanes) (sizes := sizes) (cells := cells) hH (by omega) (fun _ j hj => by rw [f2 j hj]; exact hw j (by omega)) ⟨by rw [hR]; rfl, fun r hr => by cases hr⟩
      rw [if_pos (show 0 < (rd_perms n).length from f1)] at g
      exact ⟨readings', rows', places', aheads', now', at', place', rank', t, fun v h' gg => b_X9_finds_20 (pk_le n i (fun _ => g v h' gg) (fun q => by omega) hH.1)⟩
    | succ m ih =>
      intro i now hi hw
      obtain ⟨readings', rows', places', aheads', now', at', place', rank', t, g⟩ := ih (i + 1) (upd now i (nI i)) (by omega) (fun j hj => by
        by_cases e : j = i
        · subst e; rw [pk_us]
        · rw [pk_un e]; exact hw j (by omega))
      exact ⟨readings', rows', places', aheads', now', at', place', rank', t, fun v h' gg => b_X9_finds_20 (pk_le n i (fun q => by omega) (fun _ => ⟨i, rfl, by omega, by rw [nI_1]; exact g v h' gg⟩) hH.1)⟩
  exact key n 0 now (by omega) (fun j hj => by omega)
