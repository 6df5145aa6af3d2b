/-! meaning: the reference's side: holdsIn, all words, finds -/
theorem m_depthOf_l {d n o r : Nat} {l : List Nat} (hn : n ≤ 4) (hr : r < 24) {st draft kept isKept tape : Nat → Int32} {taped pos begun sort fault wrongAt : Int32} {rows places aheads : Nat → Int32} {readings isFound : Int32} {now at_ place rank : Nat → Int32} {nounBits verbBits inner table next : Nat → Int64} {powers : Nat → Int32} {things : Int32} {holding patterns : Nat → Int64} {seeded : Int32} {lanes sizes cells : Nat → Int32} (hP : ∀ x, x < n → places (4 * r + x) = cv (rd_pl n o l x) ∧ aheads (4 * r + x) = nI (rd_rk n o l x)) : ∀ (f p c : Nat), p < f → p < n → Go d 129 14 [some (.ref 0), some (.int (nI r)), none, some (.int (nI c)), some (.int (cv (rd_pl n o l p)))] [] (hM st draft kept isKept tape taped pos begun sort fault wrongAt rows places aheads readings isFound now at_ place rank nounBits verbBits inner table next powers things holding patterns seeded lanes sizes cells) (some (.int (nI (c + rd_dp n o l f p)))) (hM st draft kept isKept tape taped pos begun sort fault wrongAt rows places aheads readings isFound now at_ place rank nounBits verbBits inner table next powers things holding patterns seeded lanes sizes cells)
  | 0, p, c, hf, hp => by omega
  | f + 1, p, c, hf, hp => by
    have hb := rd_pl_b (n := n) (o := o) (l := l) hp
    unfold rd_dp
    by_cases h : rd_pl n o l p = 4
    · rw [if_pos h, h]
      exact b_X9_depthOf_14 (cy rfl ⟨rfl, rfl⟩)
    · rw [if_neg h, cv_lt h]
      refine b_X9_depthOf_14 (cn (nI_n4 _ (by omega)) ⟨4 * r + rd_pl n o l p, ixl r _, by omega, ?_⟩)
      rw [(hP _ (by omega)).1, nI_1]
      have := m_depthOf_l (d := d) hn hr (st := st) (draft := draft) (kept := kept) (isKept := isKept) (tape := tape) (taped := taped) (pos := pos) (begun := begun) (sort := sort) (fault := fault) (wrongAt := wrongAt) (rows := rows) (places := places) (aheads := aheads) (readings := readings) (isFound := isFound) (now := now) (at_ := at_) (place := place) (rank := rank) (nounBits := nounBits) (verbBits := verbBits) (inner := inner) (table := table) (next := next) (powers := powers) (things := things) (holding := holding) (patterns := patterns) (seeded := seeded) (lanes := lanes) (sizes := sizes) (cells := cells) hP f (rd_pl n o l p) (c + 1) (by omega) (by omega)
      rw [Nat.add_assoc] at this
      exact this
theorem m_depthOf {d n o r p : Nat} {l : List Nat} (hn : n ≤ 4) (hr : r < 24) {st draft kept isKept tape : Nat → Int32} {taped pos begun sort fault wrongAt : Int32} {rows places aheads : Nat → Int32} {readings isFound : Int32} {now at_ place rank : Nat → Int32} {nounBits verbBits inner table next : Nat → Int64} {powers : Nat → Int32} {things : Int32} {holding patterns : Nat → Int64} {seeded : Int32} {lanes sizes cells : Nat → Int32} (hP : ∀ x, x < n → places (4 * r + x) = cv (rd_pl n o l x) ∧ aheads (4 * r + x) = nI (rd_rk n o l x)) (hp : p < n) : Go d 129 0 [some (.ref 0), some (.int (nI r)), some (.int (nI p)), none, none] [] (hM st draft kept isKept tape taped pos begun sort fault wrongAt rows places aheads readings isFound now at_ place rank nounBits verbBits inner table next powers things holding patterns seeded lanes sizes cells) (some (.int (nI (rd_dp n o l 4 p)))) (hM st draft kept isKept tape taped pos begun sort fault wrongAt rows places aheads readings isFound now at_ place rank nounBits verbBits inner table next powers things holding patterns seeded lanes sizes cells) := by
  refine b_X9_depthOf_0 ⟨4 * r + p, ixl r p, by omega, ?_⟩
  rw [(hP p hp).1]
  have := m_depthOf_l (d := d) hn hr (st := st) (draft := draft) (kept := kept) (isKept := isKept) (tape := tape) (taped := taped) (pos := pos) (begun := begun) (sort := sort) (fault := fault) (wrongAt := wrongAt) (rows := rows) (places := places) (aheads := aheads) (readings := readings) (isFound := isFound) (now := now) (at_ := at_) (place := place) (rank := rank) (nounBits := nounBits) (verbBits := verbBits) (inner := inner) (table := table) (next := next) (powers := powers) (things := things) (holding := holding) (patterns := patterns) (seeded := seeded) (lanes := lanes) (sizes := sizes) (cells := cells) hP 4 p 0 (by omega) hp
  rw [Nat.zero_add] at this
  exact this
theorem dg_0 {k : Nat} (hk1 : 1 ≤ k) : dg k 0 = fun _ => 0 := by
  funext p
  unfold dg
  split
  · rw [Nat.zero_div, Nat.zero_mod]
  · rfl
theorem m_hi_52 {d n o k r : Nat} {V : Int32} {Q U W : Nat → Int32} {F : Nat → Int64} {l : List Nat} (hk1 : 1 ≤ k) (hk : k ≤ 4) (hS : sn_ok n o V Q U W) (hl : l ∈ rd_perms n) (hr : r < 24) (D : Nat) (hD : D < 5) : ∀ (m p : Nat) {st draft kept isKept tape : Nat → Int32} {taped pos begun sort fault wrongAt : Int32} {rows places aheads : Nat → Int32} {readings isFound : Int32} {now at_ place rank : Nat → Int32} {nounBits verbBits inner table next : Nat → Int64} {powers : Nat → Int32} {things : Int32} {holding patterns : Nat → Int64} {seeded : Int32} {lanes sizes cells : Nat → Int32}, sn_M st 0 n o V Q U W → nb_M k F nounBits verbBits → pw_M n k powers things → (∀ x, x < n → places (4 * r + x) = cv (rd_pl n o l x) ∧ aheads (4 * r + x) = nI (rd_rk n o l x)) → p + m = n → (∀ x, x < n → (D < rd_dp n o l 4 x ∨ (rd_dp n o l 4 x = D ∧ x < p)) → ∀ b, b < k ^ n → inner (256 * x + b) = ev k Q (rd_kd n o l) (ev_en n o k V U W F) 4 x 0 (dg k b)) → ∃ inner' table' next' : Nat → Int64, (∀ x, x < n → D ≤ rd_dp n o l 4 x → ∀ b, b < k ^ n → inner' (256 * x + b) = ev k Q (rd_kd n o l) (ev_en n o k V U W F) 4 x 0 (dg k b)) ∧ ∀ (v : Option Value) (h' : aH), Go (d + 3) 130 46 [some (.ref 0), some (.int (nI r)), some (.int (nI D - 1)), none] [] (hM st draft kept isKept tape taped pos begun sort fault wrongAt rows places aheads readings isFound now at_ place rank nounBits verbBits inner' table' next' powers things holding patterns seeded lanes sizes cells) v h' → Go (d + 3) 130 52 [some (.ref 0), some (.int (nI r)), some (.int (nI D)), some (.int (nI p))] [] (hM st draft kept isKept tape taped pos begun sort fault wrongAt rows places aheads readings isFound now at_ place rank nounBits verbBits inner table next powers things holding patterns seeded lanes sizes cells) v h'
  | 0, p, st, draft, kept, isKept, tape, taped, pos, begun, sort, fault, wrongAt, rows, places, aheads, readings, isFound, now, at_, place, rank, nounBits, verbBits, inner, table, next, powers, things, holding, patterns, seeded, lanes, sizes, cells, mM, B, P, hP, hi, hI => by
    have hn4 := hS.2.1
    have e1 : nI D + (-1 : Int32) = nI D - 1 := (Int32.sub_eq_add_neg _ _).symm
    exact ⟨inner, table, next, fun x hx h b hb => hI x hx (by omega) b hb, fun v h' g => b_X9_holdsIn_52 (pk_le n p (fun _ => by rw [e1]; exact g) (fun z => by omega) mM.1)⟩
  | m + 1, p, st, draft, kept, isKept, tape, taped, pos, begun, sort, fault, wrongAt, rows, places, aheads, readings, isFound, now, at_, place, rank, nounBits, verbBits, inner, table, next, powers, things, holding, patterns, seeded, lanes, sizes, cells, mM, B, P, hP, hi, hI => by
    have hn4 := hS.2.1
    have hkn := kpow hk1 hk hn4
    have hp : p < n := by omega
    have dp := rd_dp_ok n (by omega) o hS.2.2.2.1 hS.2.2.1 l hl
    have d1 := (dp p hp).1
    by_cases e : rd_dp n o l 4 p = D
    · obtain ⟨in1, tb1, nx1, i1, i2, i3, g1⟩ := m_findsPlace (d := d) (F := F) (h := p) hk1 hk hS hl (Or.inr hp) hr (st := st) (draft := draft) (kept := kept) (isKept := isKept) (tape := tape) (taped := taped) (pos := pos) (begun := begun) (sort := sort) (fault := fault) (wrongAt := wrongAt) (rows := rows) (places := places) (aheads := aheads) (readings := readings) (isFound := isFound) (now := now) (at_ := at_) (place := place) (rank := rank) (nounBits := nounBits) (verbBits := verbBits) (inner := inner) (table := table) (next := next) (powers := powers) (things := things) (holding := holding) (patterns := patterns) (seeded := seeded) (lanes := lanes) (sizes := sizes) (cells := cells) mM B P hP (fun x hx hxp b hb => hI x hx (by
        have := (dp x hx).2
        rw [hxp] at this
        omega) b hb)
      obtain ⟨inner', table', next', p1, p2⟩ := m_hi_52 (d := d) (F := F) hk1 hk hS hl hr D hD m (p + 1) (st := st) (draft := draft) (kept := kept) (isKept := isKept) (tape := tape) (taped := taped) (pos := pos) (begun := begun) (sort := sort) (fault := fault) (wrongAt := wrongAt) (rows := rows) (places := places) (aheads := aheads) (readings := readings) (isFound := isFound) (now := now) (at_ := at_) (place := place) (rank := rank) (nounBits := nounBits) (verbBits := verbBits) (inner := in1) (table := tb1) (next := nx1) (powers := powers) (things := things) (holding := holding) (patterns := patterns) (seeded := seeded) (lanes := lanes) (sizes := sizes) (cells := cells) mM B P hP (by omega) (fun x hx hxd b hb => by
        by_cases ex : x = p
        · subst ex; exact i2 (by omega) b hb
        · rw [i3 _ (by omega)]
          exact hI x hx (by omega) b hb)
      refine ⟨inner', table', next', p1, fun v h' g => b_X9_holdsIn_52 (pk_le n p (fun z => by omega) (fun _ => ⟨_, m_depthOf hn4 hr hP hp, ny (by rw [e]) ⟨in1, tb1, nx1, ?_, by rw [nI_1]; exact p2 v h' g⟩⟩) mM.1)⟩
      rw [cv_lt (by omega)] at g1
      exact g1
    · obtain ⟨inner', table', next', p1, p2⟩ := m_hi_52 (d := d) (F := F) hk1 hk hS hl hr D hD m (p + 1) (st := st) (draft := draft) (kept := kept) (isKept := isKept) (tape := tape) (taped := taped) (pos := pos) (begun := begun) (sort := sort) (fault := fault) (wrongAt := wrongAt) (rows := rows) (places := places) (aheads := aheads) (readings := readings) (isFound := isFound) (now := now) (at_ := at_) (place := place) (rank := rank) (nounBits := nounBits) (verbBits := verbBits) (inner := inner) (table := table) (next := next) (powers := powers) (things := things) (holding := holding) (patterns := patterns) (seeded := seeded) (lanes := lanes) (sizes := sizes) (cells := cells) mM B P hP (by omega) (fun x hx hxd b hb => hI x hx (by
        by_cases ex : x = p
        · subst ex; omega
        · omega) b hb)
      exact ⟨inner', table', next', p1, fun v h' g => b_X9_holdsIn_52 (pk_le n p (fun z => by omega) (fun _ => ⟨_, m_depthOf hn4 hr hP hp, nn (fun z => e ((nI_eq (by omega) (by omega)).mp z)) (by rw [nI_1]; exact p2 v h' g)⟩) mM.1)⟩
theorem m_hi_46 {d n o k r : Nat} {V : Int32} {Q U W : Nat → Int32} {F : Nat → Int64} {l : List Nat} (hk1 : 1 ≤ k) (hk : k ≤ 4) (hS : sn_ok n o V Q U W) (hl : l ∈ rd_perms n) (hr : r < 24) : ∀ (E : Nat) {st draft kept isKept tape : Nat → Int32} {taped pos begun sort fault wrongAt : Int32} {rows places aheads : Nat → Int32} {readings isFound : Int32} {now at_ place rank : Nat → Int32} {nounBits verbBits inner table next : Nat → Int64} {powers : Nat → Int32} {things : Int32} {holding patterns : Nat → Int64} {seeded : Int32} {lanes sizes cells : Nat → Int32}, sn_M st 0 n o V Q U W → nb_M k F nounBits verbBits → pw_M n k powers things → (∀ x, x < n → places (4 * r + x) = cv (rd_pl n o l x) ∧ aheads (4 * r + x) = nI (rd_rk n o l x)) → E ≤ 5 → (∀ x, x < n → E ≤ rd_dp n o l 4 x → ∀ b, b < k ^ n → inner (256 * x + b) = ev k Q (rd_kd n o l) (ev_en n o k V U W F) 4 x 0 (dg k b)) → ∃ inner' table' next' : Nat → Int64, Go (d + 3) 130 46 [some (.ref 0), some (.int (nI r)), some (.int (nI E - 1)), none] [] (hM st draft kept isKept tape taped pos begun sort fault wrongAt rows places aheads readings isFound now at_ place rank nounBits verbBits inner table next powers things holding patterns seeded lanes sizes cells) (some (.long (hv n o k V Q U W l F))) (hM st draft kept isKept tape taped pos begun sort fault wrongAt rows places aheads readings isFound now at_ place rank nounBits verbBits inner' table' next' powers things holding patterns seeded lanes sizes cells)
  | 0, st, draft, kept, isKept, tape, taped, pos, begun, sort, fault, wrongAt, rows, places, aheads, readings, isFound, now, at_, place, rank, nounBits, verbBits, inner, table, next, powers, things, holding, patterns, seeded, lanes, sizes, cells, mM, B, P, hP, hE, hI => by
    have hn4 := hS.2.1
    have hkn := kpow hk1 hk hn4
    obtain ⟨in1, tb1, nx1, i1, i2, i3, g1⟩ := m_findsPlace (d := d) (F := F) (h := 4) hk1 hk hS hl (Or.inl rfl) hr (st := st) (draft := draft) (kept := kept) (isKept := isKept) (tape := tape) (taped := taped) (pos := pos) (begun := begun) (sort := sort) (fault := fault) (wrongAt := wrongAt) (rows := rows) (places := places) (aheads := aheads) (readings := readings) (isFound := isFound) (now := now) (at_ := at_) (place := place) (rank := rank) (nounBits := nounBits) (verbBits := verbBits) (inner := inner) (table := table) (next := next) (powers := powers) (things := things) (holding := holding) (patterns := patterns) (seeded := seeded) (lanes := lanes) (sizes := sizes) (cells := cells) mM B P hP (fun x hx _ b hb => hI x hx (by omega) b hb)
    refine ⟨in1, tb1, nx1, b_X9_holdsIn_46 (cy (by decide) ⟨in1, tb1, nx1, g1, ?_, rfl⟩)⟩
    rw [i1 0 (by omega), dg_0 hk1]
    rfl
  | E + 1, st, draft, kept, isKept, tape, taped, pos, begun, sort, fault, wrongAt, rows, places, aheads, readings, isFound, now, at_, place, rank, nounBits, verbBits, inner, table, next, powers, things, holding, patterns, seeded, lanes, sizes, cells, mM, B, P, hP, hE, hI => by
    have e0 : nI (E + 1) - 1 = nI E := nI_pred E
    obtain ⟨in1, tb1, nx1, p1, p2⟩ := m_hi_52 (d := d) (F := F) hk1 hk hS hl hr E (by omega) n 0 (st := st) (draft := draft) (kept := kept) (isKept := isKept) (tape := tape) (taped := taped) (pos := pos) (begun := begun) (sort := sort) (fault := fault) (wrongAt := wrongAt) (rows := rows) (places := places) (aheads := aheads) (readings := readings) (isFound := isFound) (now := now) (at_ := at_) (place := place) (rank := rank) (nounBits := nounBits) (verbBits := verbBits) (inner := inner) (table := table) (next := next) (powers := powers) (things := things) (holding := holding) (patterns := patterns) (seeded := seeded) (lanes := lanes) (sizes := sizes) (cells := cells) mM B P hP (by omega) (fun x hx hxd b hb => hI x hx (by omega) b hb)
    obtain ⟨inner', table', next', g⟩ := m_hi_46 (d := d) (F := F) hk1 hk hS hl hr E (st := st) (draft := draft) (kept := kept) (isKept := isKept) (tape := tape) (taped := taped) (pos := pos) (begun := begun) (sort := sort) (fault := fault) (wrongAt := wrongAt) (rows := rows) (places := places) (aheads := aheads) (readings := readings) (isFound := isFound) (now := now) (at_ := at_) (place := place) (rank := rank) (nounBits := nounBits) (verbBits := verbBits) (inner := in1) (table := tb1) (next := nx1) (powers := powers) (things := things) (holding := holding) (patterns := patterns) (seeded := seeded) (lanes := lanes) (sizes := sizes) (cells := cells) mM B P hP (by omega) p1
    refine ⟨inner', table', next', ?_⟩
    rw [e0]
    exact b_X9_holdsIn_46 (cn (nI_pos (by omega)) (p2 _ _ g))
theorem m_holdsIn {d n o k r : Nat} {V : Int32} {Q U W : Nat → Int32} {F : Nat → Int64} {l : List Nat} (hk1 : 1 ≤ k) (hk : k ≤ 4) (hS : sn_ok n o V Q U W) (hl : l ∈ rd_perms n) (hr : r < 24) {st draft kept isKept tape : Nat → Int32} {taped pos begun sort fault wrongAt : Int32} {rows places aheads : Nat → Int32} {readings isFound : Int32} {now at_ place rank : Nat → Int32} {nounBits verbBits inner table next : Nat → Int64} {powers : Nat → Int32} {things : Int32} {holding patterns : Nat → Int64} {seeded : Int32} {lanes sizes cells : Nat → Int32} (mM : sn_M st 0 n o V Q U W) (B : nb_M k F nounBits verbBits) (hT : things = nI k) (hP : ∀ x, x < n → places (4 * r + x) = cv (rd_pl n o l x) ∧ aheads (4 * r + x) = nI (rd_rk n o l x)) : ∃ (inner' table' next' : Nat → Int64) (powers' : Nat → Int32), Go (d + 3) 130 0 [some (.ref 0), some (.int (nI r)), none, none] [] (hM st draft kept isKept tape taped pos begun sort fault wrongAt rows places aheads readings isFound now at_ place rank nounBits verbBits inner table next powers things holding patterns seeded lanes sizes cells) (some (.long (hv n o k V Q U W l F))) (hM st draft kept isKept tape taped pos begun sort fault wrongAt rows places aheads readings isFound now at_ place rank nounBits verbBits inner' table' next' powers' things holding patterns seeded lanes sizes cells) := by
  have hn4 := hS.2.1
  have key : ∀ (m p : Nat) (powers : Nat → Int32), p + m = n → (∀ j, j ≤ p → powers j = nI (k ^ j)) → ∃ (inner' table' next' : Nat → Int64) (powers' : Nat → Int32), Go (d + 3) 130 9 [some (.ref 0), some (.int (nI r)), some (.int (nI p)), none] [] (hM st draft kept isKept tape taped pos begun sort fault wrongAt rows places aheads readings isFound now at_ place rank nounBits verbBits inner table next powers things holding patterns seeded lanes sizes cells) (some (.long (hv n o k V Q U W l F))) (hM st draft kept isKept tape taped pos begun sort fault wrongAt rows places aheads readings isFound now at_ place rank nounBits verbBits inner' table' next' powers' things holding patterns seeded lanes sizes cells) := by
    intro m
    induction m with
    | zero =>
      intro p powers hi hp
      have : p = n := by omega
      subst this
      have dp := rd_dp_ok p (by omega) o hS.2.2.2.1 hS.2.2.1 l hl
      obtain ⟨inner', table', next', g⟩ := m_hi_46 (d := d) (F := F) hk1 hk hS hl hr 5 (st := st) (draft := draft) (kept := kept) (isKept := isKept) (tape := tape) (taped := taped) (pos := pos) (begun := begun) (sort := sort) (fault := fault) (wrongAt := wrongAt) (rows := rows) (places := places) (aheads := aheads) (readings := readings) (isFound := isFound) (now := now) (at_ := at_) (place := place) (rank := rank) (nounBits := nounBits) (verbBits := verbBits) (inner := inner) (table := table) (next := next) (powers := powers) (things := things) (holding := holding) (patterns := patterns) (seeded := seeded) (lanes := lanes) (sizes := sizes) (cells := cells) mM B ⟨hT, hp⟩ hP (by omega) (fun x hx hxd => by have := (dp x hx).1; omega)
      exact ⟨inner', table', next', powers, b_X9_holdsIn_9 (pk_le p p (fun _ => g) (fun z => by omega) mM.1)⟩
    | succ m ih =>
      intro p powers hi hp
      obtain ⟨inner', table', next', powers', g⟩ := ih (p + 1) (upd powers (p + 1) (powers p * things)) (by omega) (fun j hj => by
        by_cases e : j = p + 1
        · subst e; rw [pk_us, hp p (by omega), hT, pk_mul, Nat.pow_succ]
        · rw [pk_un e]; exact hp j (by omega))
      exact ⟨inner', table', next', powers', b_X9_holdsIn_9 (pk_le n p (fun z => by omega) (fun _ => ⟨p, rfl, by omega, p + 1, nI_1 p, by omega, by rw [nI_1]; exact g⟩) mM.1)⟩
  obtain ⟨inner', table', next', powers', g⟩ := key n 0 (upd powers 0 1) (by omega) (fun j hj => by
    have : j = 0 := by omega
    subst this
    rw [pk_us, Nat.pow_zero]; rfl)
  exact ⟨inner', table', next', powers', b_X9_holdsIn_0 g⟩
/-! the facts of small worlds -/
def pt_M (patterns : Nat → Int64) : Prop := ∀ j, j < 6 → patterns j = ab_low.getD j 0
theorem m_bitOf {d b j : Nat} (hb : b < 64) (hj : j < 12) {st draft kept isKept tape : Nat → Int32} {taped pos begun sort fault wrongAt : Int32} {rows places aheads : Nat → Int32} {readings isFound : Int32} {now at_ place rank : Nat → Int32} {nounBits verbBits inner table next : Nat → Int64} {powers : Nat → Int32} {things : Int32} {holding patterns : Nat → Int64} {seeded : Int32} {lanes sizes cells : Nat → Int32} (hp : pt_M patterns) : Go (d + 1) 132 0 [some (.ref 0), some (.int (nI b)), some (.int (nI j))] [] (hM st draft kept isKept tape taped pos begun sort fault wrongAt rows places aheads readings isFound now at_ place rank nounBits verbBits inner table next powers things holding patterns seeded lanes sizes cells) (some (.long (fw (b + 1) j))) (hM st draft kept isKept tape taped pos begun sort fault wrongAt rows places aheads readings isFound now at_ place rank nounBits verbBits inner table next powers things holding patterns seeded lanes sizes cells) := by
  refine b_X9_bitOf_0 (pk_le 6 j (fun h => ⟨?_, rfl⟩) (fun h => ⟨j, rfl, h, ?_, rfl⟩))
  · have a2 : nI j - (6 : Int32) = nI (j - 6) := pk_sub (a := j) (b := 6) h
    have a3 := cz_4 (w := b) (j := j - 6) (by omega) (by omega)
    unfold fw
    rw [a2, a3, if_neg (show ¬ j < 6 by omega), Nat.add_sub_cancel]
    by_cases q : b.testBit (j - 6) = true
    · rw [if_pos q, if_pos q, if_pos rfl]
    · rw [if_neg q, if_neg q, if_neg (by decide)]
  · unfold fw
    rw [if_pos h, hp j h]
theorem m_onesFacts {d : Nat} {st draft kept isKept tape : Nat → Int32} {taped pos begun sort fault wrongAt : Int32} {rows places aheads : Nat → Int32} {readings isFound : Int32} {now at_ place rank : Nat → Int32} {nounBits verbBits inner table next : Nat → Int64} {powers : Nat → Int32} {things : Int32} {holding patterns : Nat → Int64} {seeded : Int32} {lanes sizes cells : Nat → Int32} (hp : pt_M patterns) : ∃ nounBits' verbBits' : Nat → Int64, nb_M 1 (fw 0) nounBits' verbBits' ∧ Go d 133 0 [some (.ref 0), none] [] (hM st draft kept isKept tape taped pos begun sort fault wrongAt rows places aheads readings isFound now at_ place rank nounBits verbBits inner table next powers things holding patterns seeded lanes sizes cells) none (hM st draft kept isKept tape taped pos begun sort fault wrongAt rows places aheads readings isFound now at_ place rank nounBits' verbBits' inner table next powers (1 : Int32) holding patterns seeded lanes sizes cells) := by
  have f : ∀ j, j < 6 → patterns j = fw 0 j := fun j hj => by
    unfold fw
    rw [if_pos hj]
    exact hp j hj
  refine ⟨_, _, ⟨fun i hi t ht => ?_, fun i hi t ht u hu => ?_⟩, b_X9_onesFacts_0 ⟨rfl, rfl⟩⟩
  · have h1 : t = 0 := by omega
    have h2 : i = 0 ∨ i = 1 := by omega
    subst h1
    rcases h2 with rfl | rfl
    · exact f 0 (by decide)
    · exact f 1 (by decide)
  · have h1 : t = 0 := by omega
    have h3 : u = 0 := by omega
    have h2 : i = 0 ∨ i = 1 := by omega
    subst h1 h3
    rcases h2 with rfl | rfl
    · exact f 2 (by decide)
    · exact f 3 (by decide)
theorem m_twosFacts {d b : Nat} (hb : b < 64) {st draft kept isKept tape : Nat → Int32} {taped pos begun sort fault wrongAt : Int32} {rows places aheads : Nat → Int32} {readings isFound : Int32} {now at_ place rank : Nat → Int32} {nounBits verbBits inner table next : Nat → Int64} {powers : Nat → Int32} {things : Int32} {holding patterns : Nat → Int64} {seeded : Int32} {lanes sizes cells : Nat → Int32} (hp : pt_M patterns) : ∃ nounBits' verbBits' : Nat → Int64, nb_M 2 (fw (b + 1)) nounBits' verbBits' ∧ Go (d + 2) 134 0 [some (.ref 0), some (.int (nI b)), none, none] [] (hM st draft kept isKept tape taped pos begun sort fault wrongAt rows places aheads readings isFound now at_ place rank nounBits verbBits inner table next powers things holding patterns seeded lanes sizes cells) none (hM st draft kept isKept tape taped pos begun sort fault wrongAt rows places aheads readings isFound now at_ place rank nounBits' verbBits' inner table next powers (2 : Int32) holding patterns seeded lanes sizes cells) := by
  refine ⟨_, _, ?_, b_X9_twosFacts_0 ⟨_, m_bitOf (j := 0) hb (by decide) hp, _, m_bitOf (j := 4) hb (by decide) hp, _, m_bitOf (j := 5) hb (by decide) hp, _, m_bitOf (j := 1) hb (by decide) hp, _, m_bitOf (j := 6) hb (by decide) hp, _, m_bitOf (j := 7) hb (by decide) hp, _, m_bitOf (j := 2) hb (by decide) hp, _, m_bitOf (j := 8) hb (by decide) hp, _, m_bitOf (j := 9) hb (by decide) hp, _, m_bitOf (j := 3) hb (by decide) hp, _, m_bitOf (j := 10) hb (by decide) hp, _, m_bitOf (j := 11) hb (by decide) hp, rfl, rfl⟩⟩
  refine ⟨fun i hi t ht => ?_, fun i hi t ht u hu => ?_⟩
  · have h1 : t = 0 ∨ t = 1 := by omega
    have h2 : i = 0 ∨ i = 1 := by omega
    rcases h1 with rfl | rfl <;> rcases h2 with rfl | rfl <;> rfl
  · have h1 : t = 0 ∨ t = 1 := by omega
    have h2 : i = 0 ∨ i = 1 := by omega
    have h3 : u = 0 ∨ u = 1 := by omega
    rcases h1 with rfl | rfl <;> rcases h2 with rfl | rfl <;> rcases h3 with rfl | rfl <;> rfl
