/-! the text: the reference's tokens -/
/-- a token that the reference holds -/
def syn (t : Nat → Nat) (T k q e : Nat) (pos begun sort fault : Int32) : Prop := fault = 0 ∧ begun = nI q ∧ pos = nI e ∧ q ≤ e ∧ e ≤ T ∧ ((sort = 1 ∧ k = tcd t q e) ∨ (sort = 0 ∧ k = 0) ∨ (sort = 2 ∧ k = 2))
theorem syn_n1 {t : Nat → Nat} {T k q e : Nat} {pos begun sort fault : Int32} (h : syn t T k q e pos begun sort fault) : k ≠ 1 := by
  obtain ⟨_, _, _, _, _, h⟩ := h
  rcases h with ⟨_, h⟩ | ⟨_, h⟩ | ⟨_, h⟩
  · have := (tcd_lt t q e).2; omega
  · omega
  · omega
theorem m_rd_82 {d T : Nat} {t : Nat → Nat} (hT : T ≤ 200) : ∀ (m p : Nat) {st draft kept isKept tape : Nat → Int32} {taped pos begun sort fault wrongAt : Int32} {rows places aheads : Nat → Int32} {readings isFound : Int32} {now at_ place rank : Nat → Int32} {nounBits verbBits inner table next : Nat → Int64} {powers : Nat → Int32} {things : Int32} {holding patterns : Nat → Int64} {seeded : Int32} {lanes sizes cells : Nat → Int32}, taped = nI T → (∀ j, j < T → tape j = nI (t j) ∧ t j < 128) → p + m = T → pos = nI p → Go (d + 1) 114 82 [some (.ref 0), none] [] (hM st draft kept isKept tape taped pos begun sort fault wrongAt rows places aheads readings isFound now at_ place rank nounBits verbBits inner table next powers things holding patterns seeded lanes sizes cells) none (hM st draft kept isKept tape taped (nI (nme t T m p)) begun sort fault wrongAt rows places aheads readings isFound now at_ place rank nounBits verbBits inner table next powers things holding patterns seeded lanes sizes cells)
  | 0, p, st, draft, kept, isKept, tape, taped, pos, begun, sort, fault, wrongAt, rows, places, aheads, readings, isFound, now, at_, place, rank, nounBits, verbBits, inner, table, next, powers, things, holding, patterns, seeded, lanes, sizes, cells, h1, h2, hp, hP => by
    subst hP
    have g := m_byteAt (d := d) (p := p) (t := t) (st := st) (draft := draft) (kept := kept) (isKept := isKept) (tape := tape) (taped := taped) (pos := (nI p)) (begun := begun) (sort := sort) (fault := fault) (wrongAt := wrongAt) (rows := rows) (places := places) (aheads := aheads) (readings := readings) (isFound := isFound) (now := now) (at_ := at_) (place := place) (rank := rank) (nounBits := nounBits) (verbBits := verbBits) (inner := inner) (table := table) (next := next) (powers := powers) (things := things) (holding := holding) (patterns := patterns) (seeded := seeded) (lanes := lanes) (sizes := sizes) (cells := cells) hT h1 h2 (by omega)
    rw [if_neg (by omega)] at g
    exact b_X9_reads_82 ⟨_, g, nn (by decide) ⟨rfl, rfl⟩⟩
  | m + 1, p, st, draft, kept, isKept, tape, taped, pos, begun, sort, fault, wrongAt, rows, places, aheads, readings, isFound, now, at_, place, rank, nounBits, verbBits, inner, table, next, powers, things, holding, patterns, seeded, lanes, sizes, cells, h1, h2, hp, hP => by
    subst hP
    have g := m_byteAt (d := d) (p := p) (t := t) (st := st) (draft := draft) (kept := kept) (isKept := isKept) (tape := tape) (taped := taped) (pos := (nI p)) (begun := begun) (sort := sort) (fault := fault) (wrongAt := wrongAt) (rows := rows) (places := places) (aheads := aheads) (readings := readings) (isFound := isFound) (now := now) (at_ := at_) (place := place) (rank := rank) (nounBits := nounBits) (verbBits := verbBits) (inner := inner) (table := table) (next := next) (powers := powers) (things := things) (holding := holding) (patterns := patterns) (seeded := seeded) (lanes := lanes) (sizes := sizes) (cells := cells) hT h1 h2 (by omega)
    rw [if_pos (by omega)] at g
    have hb := (h2 p (by omega)).2
    have hiff : ((97 : Int32) ≤ nI (t p) ∧ nI (t p) ≤ 122) ↔ ltr (t p) = true := by
      have a := nI_leI (a := 97) (b := t p) (by decide) (by omega)
      have b := nI_leI (a := t p) (b := 122) (by omega) (by decide)
      unfold ltr
      rw [decide_eq_true_iff]
      exact ⟨fun z => ⟨a.mp z.1, b.mp z.2⟩, fun z => ⟨a.mpr z.1, b.mpr z.2⟩⟩
    unfold nme
    by_cases h : ltr (t p) = true
    · rw [if_pos ⟨by omega, h⟩]
      have ih := m_rd_82 (d := d) (t := t) hT m (p + 1) (st := st) (draft := draft) (kept := kept) (isKept := isKept) (tape := tape) (taped := taped) (pos := (nI (p + 1))) (begun := begun) (sort := sort) (fault := fault) (wrongAt := wrongAt) (rows := rows) (places := places) (aheads := aheads) (readings := readings) (isFound := isFound) (now := now) (at_ := at_) (place := place) (rank := rank) (nounBits := nounBits) (verbBits := verbBits) (inner := inner) (table := table) (next := next) (powers := powers) (things := things) (holding := holding) (patterns := patterns) (seeded := seeded) (lanes := lanes) (sizes := sizes) (cells := cells) h1 h2 (by omega) rfl
      exact b_X9_reads_82 ⟨_, g, ny (hiff.mpr h) (by rw [nI_1]; exact ih)⟩
    · rw [if_neg (fun z => h z.2)]
      exact b_X9_reads_82 ⟨_, g, nn (fun z => h (hiff.mp z)) ⟨rfl, rfl⟩⟩
theorem m_rd_8 {d T : Nat} {t : Nat → Nat} (hT : T ≤ 200) : ∀ (m p : Nat) {st draft kept isKept tape : Nat → Int32} {taped pos begun sort fault wrongAt : Int32} {rows places aheads : Nat → Int32} {readings isFound : Int32} {now at_ place rank : Nat → Int32} {nounBits verbBits inner table next : Nat → Int64} {powers : Nat → Int32} {things : Int32} {holding patterns : Nat → Int64} {seeded : Int32} {lanes sizes cells : Nat → Int32}, taped = nI T → (∀ j, j < T → tape j = nI (t j) ∧ t j < 128) → p + m = T → pos = nI p → fault = 0 → ∃ pos1 begun1 sort1 fault1 wrongAt1 : Int32, Go (d + 1) 114 8 [some (.ref 0), none] [] (hM st draft kept isKept tape taped pos begun sort fault wrongAt rows places aheads readings isFound now at_ place rank nounBits verbBits inner table next powers things holding patterns seeded lanes sizes cells) none (hM st draft kept isKept tape taped pos1 begun1 sort1 fault1 wrongAt1 rows places aheads readings isFound now at_ place rank nounBits verbBits inner table next powers things holding patterns seeded lanes sizes cells) ∧ (syn t T (tokq t T (skp t T m p)).1 (tokq t T (skp t T m p)).2.1 (tokq t T (skp t T m p)).2.2 pos1 begun1 sort1 fault1 ∨ ((tokq t T (skp t T m p)).1 = 1 ∧ fault1 = 1 ∧ wrongAt1 = nI (tokq t T (skp t T m p)).2.1))
  | 0, p, st, draft, kept, isKept, tape, taped, pos, begun, sort, fault, wrongAt, rows, places, aheads, readings, isFound, now, at_, place, rank, nounBits, verbBits, inner, table, next, powers, things, holding, patterns, seeded, lanes, sizes, cells, h1, h2, hp, hP, hf => by
    subst hP hf
    have g := m_byteAt (d := d) (p := p) (t := t) (st := st) (draft := draft) (kept := kept) (isKept := isKept) (tape := tape) (taped := taped) (pos := (nI p)) (begun := begun) (sort := sort) (fault := (0 : Int32)) (wrongAt := wrongAt) (rows := rows) (places := places) (aheads := aheads) (readings := readings) (isFound := isFound) (now := now) (at_ := at_) (place := place) (rank := rank) (nounBits := nounBits) (verbBits := verbBits) (inner := inner) (table := table) (next := next) (powers := powers) (things := things) (holding := holding) (patterns := patterns) (seeded := seeded) (lanes := lanes) (sizes := sizes) (cells := cells) hT h1 h2 (by omega)
    have g2 := m_byteAt (d := d) (p := p) (t := t) (st := st) (draft := draft) (kept := kept) (isKept := isKept) (tape := tape) (taped := taped) (pos := (nI p)) (begun := (nI p)) (sort := sort) (fault := (0 : Int32)) (wrongAt := wrongAt) (rows := rows) (places := places) (aheads := aheads) (readings := readings) (isFound := isFound) (now := now) (at_ := at_) (place := place) (rank := rank) (nounBits := nounBits) (verbBits := verbBits) (inner := inner) (table := table) (next := next) (powers := powers) (things := things) (holding := holding) (patterns := patterns) (seeded := seeded) (lanes := lanes) (sizes := sizes) (cells := cells) hT h1 h2 (by omega)
    rw [if_neg (by omega)] at g g2
    have e : tokq t T (skp t T 0 p) = (0, p, p) := by unfold skp tokq; rw [if_pos (by omega)]
    rw [e]
    exact ⟨_, _, _, _, _, b_X9_reads_8 ⟨_, g, nn (by decide) ⟨_, g2, cn (by decide) ⟨rfl, rfl⟩⟩⟩, Or.inl ⟨rfl, rfl, rfl, Nat.le_refl _, by show p ≤ T; omega, Or.inr (Or.inl ⟨rfl, rfl⟩)⟩⟩
  | m + 1, p, st, draft, kept, isKept, tape, taped, pos, begun, sort, fault, wrongAt, rows, places, aheads, readings, isFound, now, at_, place, rank, nounBits, verbBits, inner, table, next, powers, things, holding, patterns, seeded, lanes, sizes, cells, h1, h2, hp, hP, hf => by
    subst hP hf
    have g := m_byteAt (d := d) (p := p) (t := t) (st := st) (draft := draft) (kept := kept) (isKept := isKept) (tape := tape) (taped := taped) (pos := (nI p)) (begun := begun) (sort := sort) (fault := (0 : Int32)) (wrongAt := wrongAt) (rows := rows) (places := places) (aheads := aheads) (readings := readings) (isFound := isFound) (now := now) (at_ := at_) (place := place) (rank := rank) (nounBits := nounBits) (verbBits := verbBits) (inner := inner) (table := table) (next := next) (powers := powers) (things := things) (holding := holding) (patterns := patterns) (seeded := seeded) (lanes := lanes) (sizes := sizes) (cells := cells) hT h1 h2 (by omega)
    have g2 := m_byteAt (d := d) (p := p) (t := t) (st := st) (draft := draft) (kept := kept) (isKept := isKept) (tape := tape) (taped := taped) (pos := (nI p)) (begun := (nI p)) (sort := sort) (fault := (0 : Int32)) (wrongAt := wrongAt) (rows := rows) (places := places) (aheads := aheads) (readings := readings) (isFound := isFound) (now := now) (at_ := at_) (place := place) (rank := rank) (nounBits := nounBits) (verbBits := verbBits) (inner := inner) (table := table) (next := next) (powers := powers) (things := things) (holding := holding) (patterns := patterns) (seeded := seeded) (lanes := lanes) (sizes := sizes) (cells := cells) hT h1 h2 (by omega)
    rw [if_pos (by omega)] at g g2
    have hb := (h2 p (by omega)).2
    have hiff : ((97 : Int32) ≤ nI (t p) ∧ nI (t p) ≤ 122) ↔ ltr (t p) = true := by
      have a := nI_leI (a := 97) (b := t p) (by decide) (by omega)
      have b := nI_leI (a := t p) (b := 122) (by omega) (by decide)
      unfold ltr
      rw [decide_eq_true_iff]
      exact ⟨fun z => ⟨a.mp z.1, b.mp z.2⟩, fun z => ⟨a.mpr z.1, b.mpr z.2⟩⟩
    by_cases h : t p = 32
    · have e : skp t T (m + 1) p = skp t T m (p + 1) := by
        show (if p < T ∧ t p = 32 then skp t T m (p + 1) else p) = _
        rw [if_pos ⟨by omega, h⟩]
      rw [e]
      obtain ⟨pos1, begun1, sort1, fault1, wrongAt1, gi, hi⟩ := m_rd_8 (d := d) (t := t) hT m (p + 1) (st := st) (draft := draft) (kept := kept) (isKept := isKept) (tape := tape) (taped := taped) (pos := (nI (p + 1))) (begun := begun) (sort := sort) (fault := (0 : Int32)) (wrongAt := wrongAt) (rows := rows) (places := places) (aheads := aheads) (readings := readings) (isFound := isFound) (now := now) (at_ := at_) (place := place) (rank := rank) (nounBits := nounBits) (verbBits := verbBits) (inner := inner) (table := table) (next := next) (powers := powers) (things := things) (holding := holding) (patterns := patterns) (seeded := seeded) (lanes := lanes) (sizes := sizes) (cells := cells) h1 h2 (by omega) rfl rfl
      exact ⟨pos1, begun1, sort1, fault1, wrongAt1, b_X9_reads_8 ⟨_, g, ny (by rw [h]; rfl) (by rw [nI_1]; exact gi)⟩, hi⟩
    · have e : skp t T (m + 1) p = p := by
        show (if p < T ∧ t p = 32 then skp t T m (p + 1) else p) = _
        rw [if_neg (fun z => h z.2)]
      rw [e]
      have n32 : ¬ nI (t p) = 32 := fun z => h ((nI_eq (b := 32) (by omega) (by decide)).mp z)
      by_cases hl : ltr (t p) = true
      · have n59 : t p ≠ 59 := fun z => by rw [z] at hl; exact absurd hl (by decide)
        have e : tokq t T p = (tcd t p (nme t T (T - p) p), p, nme t T (T - p) p) := by unfold tokq; rw [if_neg (by omega), if_neg n59, if_pos hl]
        have gi := m_rd_82 (d := d) (t := t) hT (T - p) p (st := st) (draft := draft) (kept := kept) (isKept := isKept) (tape := tape) (taped := taped) (pos := (nI p)) (begun := (nI p)) (sort := (1 : Int32)) (fault := (0 : Int32)) (wrongAt := wrongAt) (rows := rows) (places := places) (aheads := aheads) (readings := readings) (isFound := isFound) (now := now) (at_ := at_) (place := place) (rank := rank) (nounBits := nounBits) (verbBits := verbBits) (inner := inner) (table := table) (next := next) (powers := powers) (things := things) (holding := holding) (patterns := patterns) (seeded := seeded) (lanes := lanes) (sizes := sizes) (cells := cells) h1 h2 (by omega) rfl
        obtain ⟨n1, n2⟩ := nme_b t T (T - p) p (by omega)
        rw [e]
        exact ⟨_, _, _, _, _, b_X9_reads_8 ⟨_, g, nn n32 ⟨_, g2, cy (nI_pos' (by omega)) (ny (hiff.mpr hl) gi)⟩⟩, Or.inl ⟨rfl, rfl, rfl, n1, n2, Or.inl ⟨rfl, rfl⟩⟩⟩
      · by_cases h59 : t p = 59
        · have e : tokq t T p = (2, p, p + 1) := by unfold tokq; rw [if_neg (by omega), if_pos h59]
          rw [e]
          refine ⟨_, _, _, _, _, b_X9_reads_8 ⟨_, g, nn n32 ⟨_, g2, cy (nI_pos' (by omega)) (nn (fun z => hl (hiff.mp z)) ⟨_, _, b_X9_requires_0 (nn ?_ ⟨rfl, rfl⟩), rfl, rfl⟩)⟩⟩, Or.inl ⟨rfl, rfl, nI_1 p, by show p ≤ p + 1; omega, by show p + 1 ≤ T; omega, Or.inr (Or.inr ⟨rfl, rfl⟩)⟩⟩
          rw [h59]
          decide
        · have e : tokq t T p = (1, p, p) := by unfold tokq; rw [if_neg (by omega), if_neg h59, if_neg hl]
          rw [e]
          refine ⟨_, _, _, _, _, b_X9_reads_8 ⟨_, g, nn n32 ⟨_, g2, cy (nI_pos' (by omega)) (nn (fun z => hl (hiff.mp z)) ⟨_, _, b_X9_requires_0 (ny ?_ (ny rfl ⟨rfl, rfl⟩)), rfl, rfl⟩)⟩⟩, Or.inr ⟨rfl, rfl, rfl⟩⟩
          rw [if_neg (show ¬ nI (t p) = (59 : Int32) from fun z => h59 ((nI_eq (b := 59) (by omega) (by decide)).mp z))]
theorem m_reads {d T p : Nat} {t : Nat → Nat} (hT : T ≤ 200) {st draft kept isKept tape : Nat → Int32} {taped pos begun sort fault wrongAt : Int32} {rows places aheads : Nat → Int32} {readings isFound : Int32} {now at_ place rank : Nat → Int32} {nounBits verbBits inner table next : Nat → Int64} {powers : Nat → Int32} {things : Int32} {holding patterns : Nat → Int64} {seeded : Int32} {lanes sizes cells : Nat → Int32} (h1 : taped = nI T) (h2 : ∀ j, j < T → tape j = nI (t j) ∧ t j < 128) (hp : p ≤ T) (hP : pos = nI p) (hf : fault = 0) : ∃ pos1 begun1 sort1 fault1 wrongAt1 : Int32, Go (d + 1) 114 0 [some (.ref 0), none] [] (hM st draft kept isKept tape taped pos begun sort fault wrongAt rows places aheads readings isFound now at_ place rank nounBits verbBits inner table next powers things holding patterns seeded lanes sizes cells) none (hM st draft kept isKept tape taped pos1 begun1 sort1 fault1 wrongAt1 rows places aheads readings isFound now at_ place rank nounBits verbBits inner table next powers things holding patterns seeded lanes sizes cells) ∧ (syn t T (tok t T p).1 (tok t T p).2.1 (tok t T p).2.2 pos1 begun1 sort1 fault1 ∨ ((tok t T p).1 = 1 ∧ fault1 = 1 ∧ wrongAt1 = nI (tok t T p).2.1)) := by
  obtain ⟨pos1, begun1, sort1, fault1, wrongAt1, g, h⟩ := m_rd_8 (d := d) (t := t) hT (T - p) p (st := st) (draft := draft) (kept := kept) (isKept := isKept) (tape := tape) (taped := taped) (pos := pos) (begun := begun) (sort := sort) (fault := fault) (wrongAt := wrongAt) (rows := rows) (places := places) (aheads := aheads) (readings := readings) (isFound := isFound) (now := now) (at_ := at_) (place := place) (rank := rank) (nounBits := nounBits) (verbBits := verbBits) (inner := inner) (table := table) (next := next) (powers := powers) (things := things) (holding := holding) (patterns := patterns) (seeded := seeded) (lanes := lanes) (sizes := sizes) (cells := cells) h1 h2 (by omega) hP hf
  exact ⟨pos1, begun1, sort1, fault1, wrongAt1, b_X9_reads_0 (cy (by rw [hf]; decide) g), h⟩
theorem m_reads_f {d f : Nat} {st draft kept isKept tape : Nat → Int32} {taped pos begun sort fault wrongAt : Int32} {rows places aheads : Nat → Int32} {readings isFound : Int32} {now at_ place rank : Nat → Int32} {nounBits verbBits inner table next : Nat → Int64} {powers : Nat → Int32} {things : Int32} {holding patterns : Nat → Int64} {seeded : Int32} {lanes sizes cells : Nat → Int32} (hf : fault = nI f) (h1 : 1 ≤ f) (h4 : f < 4) : Go (d + 1) 114 0 [some (.ref 0), none] [] (hM st draft kept isKept tape taped pos begun sort fault wrongAt rows places aheads readings isFound now at_ place rank nounBits verbBits inner table next powers things holding patterns seeded lanes sizes cells) none (hM st draft kept isKept tape taped pos begun sort fault wrongAt rows places aheads readings isFound now at_ place rank nounBits verbBits inner table next powers things holding patterns seeded lanes sizes cells) := b_X9_reads_0 (cn (by rw [hf]; exact nI_nle (by omega) (by omega)) ⟨rfl, rfl⟩)
/-- what the reference takes a token for -/
def qn (k : Nat) : Int32 := if 10 ≤ k ∧ k < 14 then nI (k - 10) else -4
def un_n (k : Nat) : Int32 := if 20 ≤ k ∧ k < 22 then nI (k - 20) else -4
def vn (k : Nat) : Int32 := if 30 ≤ k ∧ k < 32 then nI (k - 30) else -4
theorem cds_v : ∀ k, k < 9 → (qn (cds.getD k 0) = if k = 1 then 0 else if k = 2 then 1 else if k = 3 then 2 else if k = 4 then 3 else -4) ∧ (un_n (cds.getD k 0) = if k = 5 then 0 else if k = 6 then 1 else -4) ∧ (vn (cds.getD k 0) = if k = 7 then 0 else if k = 8 then 1 else -4) ∧ (cds.getD k 0 = 3 ↔ k = 0) := by decide +kernel
theorem now_w {t : Nat → Nat} {T k q e : Nat} {pos begun sort fault : Int32} (h : syn t T k q e pos begun sort fault) : (sort = 1 ∧ ((k = 4 ∧ ∀ j, j < 9 → ¬ (sort = 1 ∧ mtw t q e (wds.getD j []) = true)) ∨ ∃ i, i < 9 ∧ k = cds.getD i 0 ∧ ∀ j, j < 9 → ((sort = 1 ∧ mtw t q e (wds.getD j []) = true) ↔ j = i))) ∨ ((k = 0 ∨ k = 2) ∧ ∀ j, j < 9 → ¬ (sort = 1 ∧ mtw t q e (wds.getD j []) = true)) := by
  obtain ⟨_, _, _, _, _, h⟩ := h
  rcases h with ⟨s1, hk⟩ | ⟨s0, hk⟩ | ⟨s2, hk⟩
  · refine Or.inl ⟨s1, ?_⟩
    rcases tcd_or t q e with ⟨h4, hn⟩ | ⟨i, hi, hm, hc⟩
    · exact Or.inl ⟨hk.trans h4, fun j hj z => by rw [hn j hj] at z; cases z.2⟩
    · refine Or.inr ⟨i, hi, hk.trans hc, fun j hj => ⟨fun z => ?_, fun z => ⟨s1, by rw [z]; exact hm⟩⟩⟩
      have inj : ∀ j, j < 9 → ∀ k, k < 9 → cds.getD j 0 = cds.getD k 0 → j = k := by decide
      exact inj j hj i hi (by rw [← tcd_k hj z.2, hc])
  · exact Or.inr ⟨Or.inl hk, fun j _ z => by rw [s0] at z; exact absurd z.1 (by decide)⟩
  · exact Or.inr ⟨Or.inr hk, fun j _ z => by rw [s2] at z; exact absurd z.1 (by decide)⟩
theorem now_none {t : Nat → Nat} {q e k : Nat} {sort : Int32} (hk : k = 4 ∨ k = 0 ∨ k = 2) (h : ∀ j, j < 9 → ¬ (sort = 1 ∧ mtw t q e (wds.getD j []) = true)) : qn k = -4 ∧ un_n k = -4 ∧ vn k = -4 ∧ k ≠ 3 := by
  rcases hk with rfl | rfl | rfl <;> decide
section NOW
theorem m_quantK {d T k q e : Nat} {t : Nat → Nat} (hT : T ≤ 200) {st draft kept isKept tape : Nat → Int32} {taped pos begun sort fault wrongAt : Int32} {rows places aheads : Nat → Int32} {readings isFound : Int32} {now at_ place rank : Nat → Int32} {nounBits verbBits inner table next : Nat → Int64} {powers : Nat → Int32} {things : Int32} {holding patterns : Nat → Int64} {seeded : Int32} {lanes sizes cells : Nat → Int32} (h1 : taped = nI T) (h2 : ∀ j, j < T → tape j = nI (t j) ∧ t j < 128) (hs : syn t T k q e pos begun sort fault) : Go (d + 2) 110 0 [some (.ref 0)] [] (hM st draft kept isKept tape taped pos begun sort fault wrongAt rows places aheads readings isFound now at_ place rank nounBits verbBits inner table next powers things holding patterns seeded lanes sizes cells) (some (.int (qn k))) (hM st draft kept isKept tape taped pos begun sort fault wrongAt rows places aheads readings isFound now at_ place rank nounBits verbBits inner table next powers things holding patterns seeded lanes sizes cells) := by
  have g := m_quant (d := d) (q := q) (e := e) (t := t) (st := st) (draft := draft) (kept := kept) (isKept := isKept) (tape := tape) (taped := taped) (pos := pos) (begun := begun) (sort := sort) (fault := fault) (wrongAt := wrongAt) (rows := rows) (places := places) (aheads := aheads) (readings := readings) (isFound := isFound) (now := now) (at_ := at_) (place := place) (rank := rank) (nounBits := nounBits) (verbBits := verbBits) (inner := inner) (table := table) (next := next) (powers := powers) (things := things) (holding := holding) (patterns := patterns) (seeded := seeded) (lanes := lanes) (sizes := sizes) (cells := cells) hT h1 h2 hs.2.2.1 hs.2.1 hs.2.2.2.1 (fun _ => hs.2.2.2.2.1) (by have := hs.2.2.2.2.1; omega)
  rcases now_w hs with ⟨s1, ⟨h4, hn⟩ | ⟨i, hi, hk, hj⟩⟩ | ⟨h02, hn⟩
  · rw [if_neg (hn 1 (by decide)), if_neg (hn 2 (by decide)), if_neg (hn 3 (by decide)), if_neg (hn 4 (by decide))] at g
    rw [(now_none (Or.inl h4) hn).1]; exact g
  · rw [hk, (cds_v i hi).1]
    simp only [hj 1 (by decide), hj 2 (by decide), hj 3 (by decide), hj 4 (by decide)] at g
    simp only [eq_comm (a := i)]
    exact g
  · rw [if_neg (hn 1 (by decide)), if_neg (hn 2 (by decide)), if_neg (hn 3 (by decide)), if_neg (hn 4 (by decide))] at g
    rw [(now_none (Or.inr h02) hn).1]; exact g
theorem m_nounK {d T k q e : Nat} {t : Nat → Nat} (hT : T ≤ 200) {st draft kept isKept tape : Nat → Int32} {taped pos begun sort fault wrongAt : Int32} {rows places aheads : Nat → Int32} {readings isFound : Int32} {now at_ place rank : Nat → Int32} {nounBits verbBits inner table next : Nat → Int64} {powers : Nat → Int32} {things : Int32} {holding patterns : Nat → Int64} {seeded : Int32} {lanes sizes cells : Nat → Int32} (h1 : taped = nI T) (h2 : ∀ j, j < T → tape j = nI (t j) ∧ t j < 128) (hs : syn t T k q e pos begun sort fault) : Go (d + 2) 111 0 [some (.ref 0)] [] (hM st draft kept isKept tape taped pos begun sort fault wrongAt rows places aheads readings isFound now at_ place rank nounBits verbBits inner table next powers things holding patterns seeded lanes sizes cells) (some (.int (un_n k))) (hM st draft kept isKept tape taped pos begun sort fault wrongAt rows places aheads readings isFound now at_ place rank nounBits verbBits inner table next powers things holding patterns seeded lanes sizes cells) := by
  have g := m_noun (d := d) (q := q) (e := e) (t := t) (st := st) (draft := draft) (kept := kept) (isKept := isKept) (tape := tape) (taped := taped) (pos := pos) (begun := begun) (sort := sort) (fault := fault) (wrongAt := wrongAt) (rows := rows) (places := places) (aheads := aheads) (readings := readings) (isFound := isFound) (now := now) (at_ := at_) (place := place) (rank := rank) (nounBits := nounBits) (verbBits := verbBits) (inner := inner) (table := table) (next := next) (powers := powers) (things := things) (holding := holding) (patterns := patterns) (seeded := seeded) (lanes := lanes) (sizes := sizes) (cells := cells) hT h1 h2 hs.2.2.1 hs.2.1 hs.2.2.2.1 (fun _ => hs.2.2.2.2.1) (by have := hs.2.2.2.2.1; omega)
  rcases now_w hs with ⟨s1, ⟨h4, hn⟩ | ⟨i, hi, hk, hj⟩⟩ | ⟨h02, hn⟩
  · rw [if_neg (hn 5 (by decide)), if_neg (hn 6 (by decide))] at g
    rw [(now_none (Or.inl h4) hn).2.1]; exact g
  · rw [hk, (cds_v i hi).2.1]
    simp only [hj 5 (by decide), hj 6 (by decide)] at g
    simp only [eq_comm (a := i)]
    exact g
  · rw [if_neg (hn 5 (by decide)), if_neg (hn 6 (by decide))] at g
    rw [(now_none (Or.inr h02) hn).2.1]; exact g
theorem m_verbK {d T k q e : Nat} {t : Nat → Nat} (hT : T ≤ 200) {st draft kept isKept tape : Nat → Int32} {taped pos begun sort fault wrongAt : Int32} {rows places aheads : Nat → Int32} {readings isFound : Int32} {now at_ place rank : Nat → Int32} {nounBits verbBits inner table next : Nat → Int64} {powers : Nat → Int32} {things : Int32} {holding patterns : Nat → Int64} {seeded : Int32} {lanes sizes cells : Nat → Int32} (h1 : taped = nI T) (h2 : ∀ j, j < T → tape j = nI (t j) ∧ t j < 128) (hs : syn t T k q e pos begun sort fault) : Go (d + 2) 112 0 [some (.ref 0)] [] (hM st draft kept isKept tape taped pos begun sort fault wrongAt rows places aheads readings isFound now at_ place rank nounBits verbBits inner table next powers things holding patterns seeded lanes sizes cells) (some (.int (vn k))) (hM st draft kept isKept tape taped pos begun sort fault wrongAt rows places aheads readings isFound now at_ place rank nounBits verbBits inner table next powers things holding patterns seeded lanes sizes cells) := by
  have g := m_verb (d := d) (q := q) (e := e) (t := t) (st := st) (draft := draft) (kept := kept) (isKept := isKept) (tape := tape) (taped := taped) (pos := pos) (begun := begun) (sort := sort) (fault := fault) (wrongAt := wrongAt) (rows := rows) (places := places) (aheads := aheads) (readings := readings) (isFound := isFound) (now := now) (at_ := at_) (place := place) (rank := rank) (nounBits := nounBits) (verbBits := verbBits) (inner := inner) (table := table) (next := next) (powers := powers) (things := things) (holding := holding) (patterns := patterns) (seeded := seeded) (lanes := lanes) (sizes := sizes) (cells := cells) hT h1 h2 hs.2.2.1 hs.2.1 hs.2.2.2.1 (fun _ => hs.2.2.2.2.1) (by have := hs.2.2.2.2.1; omega)
  rcases now_w hs with ⟨s1, ⟨h4, hn⟩ | ⟨i, hi, hk, hj⟩⟩ | ⟨h02, hn⟩
  · rw [if_neg (hn 7 (by decide)), if_neg (hn 8 (by decide))] at g
    rw [(now_none (Or.inl h4) hn).2.2.1]; exact g
  · rw [hk, (cds_v i hi).2.2.1]
    simp only [hj 7 (by decide), hj 8 (by decide)] at g
    simp only [eq_comm (a := i)]
    exact g
  · rw [if_neg (hn 7 (by decide)), if_neg (hn 8 (by decide))] at g
    rw [(now_none (Or.inr h02) hn).2.2.1]; exact g
theorem m_thatK {d T k q e : Nat} {t : Nat → Nat} (hT : T ≤ 200) {st draft kept isKept tape : Nat → Int32} {taped pos begun sort fault wrongAt : Int32} {rows places aheads : Nat → Int32} {readings isFound : Int32} {now at_ place rank : Nat → Int32} {nounBits verbBits inner table next : Nat → Int64} {powers : Nat → Int32} {things : Int32} {holding patterns : Nat → Int64} {seeded : Int32} {lanes sizes cells : Nat → Int32} (h1 : taped = nI T) (h2 : ∀ j, j < T → tape j = nI (t j) ∧ t j < 128) (hs : syn t T k q e pos begun sort fault) : Go (d + 2) 113 0 [some (.ref 0)] [] (hM st draft kept isKept tape taped pos begun sort fault wrongAt rows places aheads readings isFound now at_ place rank nounBits verbBits inner table next powers things holding patterns seeded lanes sizes cells) (some (.int (if k = 3 then 1 else 0))) (hM st draft kept isKept tape taped pos begun sort fault wrongAt rows places aheads readings isFound now at_ place rank nounBits verbBits inner table next powers things holding patterns seeded lanes sizes cells) := by
  have g := m_that (d := d) (q := q) (e := e) (t := t) (st := st) (draft := draft) (kept := kept) (isKept := isKept) (tape := tape) (taped := taped) (pos := pos) (begun := begun) (sort := sort) (fault := fault) (wrongAt := wrongAt) (rows := rows) (places := places) (aheads := aheads) (readings := readings) (isFound := isFound) (now := now) (at_ := at_) (place := place) (rank := rank) (nounBits := nounBits) (verbBits := verbBits) (inner := inner) (table := table) (next := next) (powers := powers) (things := things) (holding := holding) (patterns := patterns) (seeded := seeded) (lanes := lanes) (sizes := sizes) (cells := cells) hT h1 h2 hs.2.2.1 hs.2.1 hs.2.2.2.1 (fun _ => hs.2.2.2.2.1) (by have := hs.2.2.2.2.1; omega)
  rcases now_w hs with ⟨s1, ⟨h4, hn⟩ | ⟨i, hi, hk, hj⟩⟩ | ⟨h02, hn⟩
  · rw [if_neg (hn 0 (by decide))] at g
    rw [if_neg (now_none (Or.inl h4) hn).2.2.2]; exact g
  · have h3 := (cds_v i hi).2.2.2
    rw [← hk] at h3
    by_cases h : k = 3
    · rw [if_pos ((hj 0 (by decide)).mpr (h3.mp h).symm)] at g
      rw [if_pos h]; exact g
    · rw [if_neg (fun z => h (h3.mpr ((hj 0 (by decide)).mp z).symm))] at g
      rw [if_neg h]; exact g
  · rw [if_neg (hn 0 (by decide))] at g
    rw [if_neg (now_none (Or.inr h02) hn).2.2.2]; exact g
end NOW
theorem m_taken {d T k q e : Nat} {x : Int32} {t : Nat → Nat} (hT : T ≤ 200) {st draft kept isKept tape : Nat → Int32} {taped pos begun sort fault wrongAt : Int32} {rows places aheads : Nat → Int32} {readings isFound : Int32} {now at_ place rank : Nat → Int32} {nounBits verbBits inner table next : Nat → Int64} {powers : Nat → Int32} {things : Int32} {holding patterns : Nat → Int64} {seeded : Int32} {lanes sizes cells : Nat → Int32} (h1 : taped = nI T) (h2 : ∀ j, j < T → tape j = nI (t j) ∧ t j < 128) (hs : syn t T k q e pos begun sort fault) : ∃ (r pos1 begun1 sort1 fault1 wrongAt1 : Int32), Go (d + 2) 115 0 [some (.ref 0), some (.int x)] [] (hM st draft kept isKept tape taped pos begun sort fault wrongAt rows places aheads readings isFound now at_ place rank nounBits verbBits inner table next powers things holding patterns seeded lanes sizes cells) (some (.int r)) (hM st draft kept isKept tape taped pos1 begun1 sort1 fault1 wrongAt1 rows places aheads readings isFound now at_ place rank nounBits verbBits inner table next powers things holding patterns seeded lanes sizes cells) ∧ ((x = -4 ∧ fault1 = nI 2 ∧ wrongAt1 = nI q) ∨ (x ≠ -4 ∧ (tok t T e).1 = 1 ∧ fault1 = nI 1 ∧ wrongAt1 = nI (tok t T e).2.1) ∨ (x ≠ -4 ∧ r = x ∧ syn t T (tok t T e).1 (tok t T e).2.1 (tok t T e).2.2 pos1 begun1 sort1 fault1)) := by
  have f0 := hs.1
  subst f0
  by_cases hx : x = -4
  · have gr := m_reads_f (d := d) (f := 2) (st := st) (draft := draft) (kept := kept) (isKept := isKept) (tape := tape) (taped := taped) (pos := pos) (begun := begun) (sort := sort) (fault := (2 : Int32)) (wrongAt := begun) (rows := rows) (places := places) (aheads := aheads) (readings := readings) (isFound := isFound) (now := now) (at_ := at_) (place := place) (rank := rank) (nounBits := nounBits) (verbBits := verbBits) (inner := inner) (table := table) (next := next) (powers := powers) (things := things) (holding := holding) (patterns := patterns) (seeded := seeded) (lanes := lanes) (sizes := sizes) (cells := cells) rfl (by decide) (by decide)
    refine ⟨0, pos, begun, sort, 2, begun, b_X9_taken_0 (ny rfl ⟨2, begun, b_X9_requires_0 (ny (by rw [if_neg (fun z => z hx)]) (ny rfl ⟨rfl, rfl⟩)), _, _, _, _, _, gr, nn (by decide) ⟨rfl, rfl⟩⟩), Or.inl ⟨hx, rfl, hs.2.1⟩⟩
  · obtain ⟨pos1, begun1, sort1, fault1, wrongAt1, g, h⟩ := m_reads (d := d) (t := t) hT (st := st) (draft := draft) (kept := kept) (isKept := isKept) (tape := tape) (taped := taped) (pos := pos) (begun := begun) (sort := sort) (fault := (0 : Int32)) (wrongAt := wrongAt) (rows := rows) (places := places) (aheads := aheads) (readings := readings) (isFound := isFound) (now := now) (at_ := at_) (place := place) (rank := rank) (nounBits := nounBits) (verbBits := verbBits) (inner := inner) (table := table) (next := next) (powers := powers) (things := things) (holding := holding) (patterns := patterns) (seeded := seeded) (lanes := lanes) (sizes := sizes) (cells := cells) h1 h2 hs.2.2.2.2.1 hs.2.2.1 rfl
    have gq : Go (d + 1) 107 0 [some (.ref 0), some (.int (if ¬ x = -4 then (1 : Int32) else 0)), some (.int (2 : Int32))] [] (hM st draft kept isKept tape taped pos begun sort (0 : Int32) wrongAt rows places aheads readings isFound now at_ place rank nounBits verbBits inner table next powers things holding patterns seeded lanes sizes cells) none (hM st draft kept isKept tape taped pos begun sort (0 : Int32) wrongAt rows places aheads readings isFound now at_ place rank nounBits verbBits inner table next powers things holding patterns seeded lanes sizes cells) := b_X9_requires_0 (nn (by rw [if_pos hx]; decide) ⟨rfl, rfl⟩)
    rcases h with h | ⟨k1, k2, k3⟩
    · exact ⟨x, pos1, begun1, sort1, fault1, wrongAt1, b_X9_taken_0 (ny rfl ⟨0, wrongAt, gq, _, _, _, _, _, g, ny h.1 ⟨rfl, rfl⟩⟩), Or.inr (Or.inr ⟨hx, rfl, h⟩)⟩
    · exact ⟨0, pos1, begun1, sort1, fault1, wrongAt1, b_X9_taken_0 (ny rfl ⟨0, wrongAt, gq, _, _, _, _, _, g, nn (by rw [k2]; decide) ⟨rfl, rfl⟩⟩), Or.inr (Or.inl ⟨hx, k1, k2, k3⟩)⟩
