/-! the text: the reference's names -/
theorem m_byteAt {d p T : Nat} {t : Nat → Nat} {st draft kept isKept tape : Nat → Int32} {taped pos begun sort fault wrongAt : Int32} {rows places aheads : Nat → Int32} {readings isFound : Int32} {now at_ place rank : Nat → Int32} {nounBits verbBits inner table next : Nat → Int64} {powers : Nat → Int32} {things : Int32} {holding patterns : Nat → Int64} {seeded : Int32} {lanes sizes cells : Nat → Int32} (hT : T ≤ 200) (h1 : taped = nI T) (h2 : ∀ j, j < T → tape j = nI (t j) ∧ t j < 128) (hp : p < 1000) : Go d 108 0 [some (.ref 0), some (.int (nI p))] [] (hM st draft kept isKept tape taped pos begun sort fault wrongAt rows places aheads readings isFound now at_ place rank nounBits verbBits inner table next powers things holding patterns seeded lanes sizes cells) (some (.int (if p < T then nI (t p) else -1))) (hM st draft kept isKept tape taped pos begun sort fault wrongAt rows places aheads readings isFound now at_ place rank nounBits verbBits inner table next powers things holding patterns seeded lanes sizes cells) := b_X9_byteAt_0 (pk_le T p (fun z => ⟨by rw [if_neg (by omega)], rfl⟩) (fun z => ⟨p, rfl, by omega, by rw [(h2 p z).1, if_pos z], rfl⟩) h1)
theorem m_is {d q e T n f a b : Nat} {t : Nat → Nat} {st draft kept isKept tape : Nat → Int32} {taped pos begun sort fault wrongAt : Int32} {rows places aheads : Nat → Int32} {readings isFound : Int32} {now at_ place rank : Nat → Int32} {nounBits verbBits inner table next : Nat → Int64} {powers : Nat → Int32} {things : Int32} {holding patterns : Nat → Int64} {seeded : Int32} {lanes sizes cells : Nat → Int32} (hT : T ≤ 200) (h1 : taped = nI T) (h2 : ∀ j, j < T → tape j = nI (t j) ∧ t j < 128) (hP : pos = nI e) (hB : begun = nI q) (hq : q ≤ e) (he : sort = 1 → e ≤ T) (he3 : e < 300) (hf : f + 1 < n) (hn : n < 10) (ha : a < 128) (hb : b < 128) : Go (d + 1) 109 0 [some (.ref 0), some (.int (nI n)), some (.int (nI f)), some (.int (nI a)), some (.int (nI b))] [] (hM st draft kept isKept tape taped pos begun sort fault wrongAt rows places aheads readings isFound now at_ place rank nounBits verbBits inner table next powers things holding patterns seeded lanes sizes cells) (some (.int (if sort = 1 ∧ e - q = n ∧ t (q + f) = a ∧ t (q + f + 1) = b then 1 else 0))) (hM st draft kept isKept tape taped pos begun sort fault wrongAt rows places aheads readings isFound now at_ place rank nounBits verbBits inner table next powers things holding patterns seeded lanes sizes cells) := by
  refine b_X9_is_0 ⟨fun z => ⟨by rw [if_neg (fun w => z w.1)], rfl⟩, fun z => ?_⟩
  have he := he z
  have es : pos - begun = nI (e - q) := by rw [hP, hB, pk_sub hq]
  rw [es]
  by_cases hl : e - q = n
  · rw [hl]
    have e1 : begun + nI f = nI (q + f) := by rw [hB, nI_add]
    have g1 := m_byteAt (d := d) (p := q + f) (t := t) (st := st) (draft := draft) (kept := kept) (isKept := isKept) (tape := tape) (taped := taped) (pos := pos) (begun := begun) (sort := sort) (fault := fault) (wrongAt := wrongAt) (rows := rows) (places := places) (aheads := aheads) (readings := readings) (isFound := isFound) (now := now) (at_ := at_) (place := place) (rank := rank) (nounBits := nounBits) (verbBits := verbBits) (inner := inner) (table := table) (next := next) (powers := powers) (things := things) (holding := holding) (patterns := patterns) (seeded := seeded) (lanes := lanes) (sizes := sizes) (cells := cells) hT h1 h2 (by omega)
    have g2 := m_byteAt (d := d) (p := q + f + 1) (t := t) (st := st) (draft := draft) (kept := kept) (isKept := isKept) (tape := tape) (taped := taped) (pos := pos) (begun := begun) (sort := sort) (fault := fault) (wrongAt := wrongAt) (rows := rows) (places := places) (aheads := aheads) (readings := readings) (isFound := isFound) (now := now) (at_ := at_) (place := place) (rank := rank) (nounBits := nounBits) (verbBits := verbBits) (inner := inner) (table := table) (next := next) (powers := powers) (things := things) (holding := holding) (patterns := patterns) (seeded := seeded) (lanes := lanes) (sizes := sizes) (cells := cells) hT h1 h2 (by omega)
    rw [if_pos (by omega)] at g1 g2
    have b1 := (h2 (q + f) (by omega)).2
    have b2 := (h2 (q + f + 1) (by omega)).2
    rw [e1, nI_1]
    refine ny rfl ⟨_, g1, ?_⟩
    by_cases h3 : t (q + f) = a
    · refine ny (by rw [h3]) ⟨_, g2, ?_, rfl⟩
      by_cases h4 : t (q + f + 1) = b
      · rw [if_pos (show nI (t (q + f + 1)) = nI b by rw [h4]), if_pos ⟨z, rfl, h3, h4⟩]
      · rw [if_neg (show ¬ nI (t (q + f + 1)) = nI b from fun w => h4 ((nI_eq (by omega) (by omega)).mp w)), if_neg (fun w => h4 w.2.2.2)]
    · exact nn (fun w => h3 ((nI_eq (by omega) (by omega)).mp w)) ⟨by rw [if_neg (fun w => h3 w.2.2.1)], rfl⟩
  · exact nn (fun w => hl ((nI_eq (by omega) (by omega)).mp w)) ⟨by rw [if_neg (fun w => hl w.2.1)], rfl⟩
theorem mt_0 {t : Nat → Nat} {q e : Nat} : mtw t q e (wds.getD 0 []) = true ↔ e - q = 4 ∧ t (q + 0) = 116 ∧ t (q + 1) = 104 ∧ t (q + 2) = 97 ∧ t (q + 3) = 116 := by
  rw [mtw_iff]
  constructor
  · exact fun h => ⟨h.1, h.2 0 (by decide), h.2 1 (by decide), h.2 2 (by decide), h.2 3 (by decide)⟩
  · rintro ⟨h, h0, h1, h2, h3⟩
    refine ⟨h, fun i hi => ?_⟩
    have hi : i < 4 := hi
    have : i = 0 ∨ i = 1 ∨ i = 2 ∨ i = 3 := by omega
    rcases this with rfl | rfl | rfl | rfl
    · exact h0
    · exact h1
    · exact h2
    · exact h3
theorem mt_1 {t : Nat → Nat} {q e : Nat} : mtw t q e (wds.getD 1 []) = true ↔ e - q = 5 ∧ t (q + 0) = 101 ∧ t (q + 1) = 118 ∧ t (q + 2) = 101 ∧ t (q + 3) = 114 ∧ t (q + 4) = 121 := by
  rw [mtw_iff]
  constructor
  · exact fun h => ⟨h.1, h.2 0 (by decide), h.2 1 (by decide), h.2 2 (by decide), h.2 3 (by decide), h.2 4 (by decide)⟩
  · rintro ⟨h, h0, h1, h2, h3, h4⟩
    refine ⟨h, fun i hi => ?_⟩
    have hi : i < 5 := hi
    have : i = 0 ∨ i = 1 ∨ i = 2 ∨ i = 3 ∨ i = 4 := by omega
    rcases this with rfl | rfl | rfl | rfl | rfl
    · exact h0
    · exact h1
    · exact h2
    · exact h3
    · exact h4
theorem mt_2 {t : Nat → Nat} {q e : Nat} : mtw t q e (wds.getD 2 []) = true ↔ e - q = 4 ∧ t (q + 0) = 115 ∧ t (q + 1) = 111 ∧ t (q + 2) = 109 ∧ t (q + 3) = 101 := by
  rw [mtw_iff]
  constructor
  · exact fun h => ⟨h.1, h.2 0 (by decide), h.2 1 (by decide), h.2 2 (by decide), h.2 3 (by decide)⟩
  · rintro ⟨h, h0, h1, h2, h3⟩
    refine ⟨h, fun i hi => ?_⟩
    have hi : i < 4 := hi
    have : i = 0 ∨ i = 1 ∨ i = 2 ∨ i = 3 := by omega
    rcases this with rfl | rfl | rfl | rfl
    · exact h0
    · exact h1
    · exact h2
    · exact h3
theorem mt_3 {t : Nat → Nat} {q e : Nat} : mtw t q e (wds.getD 3 []) = true ↔ e - q = 2 ∧ t (q + 0) = 110 ∧ t (q + 1) = 111 := by
  rw [mtw_iff]
  constructor
  · exact fun h => ⟨h.1, h.2 0 (by decide), h.2 1 (by decide)⟩
  · rintro ⟨h, h0, h1⟩
    refine ⟨h, fun i hi => ?_⟩
    have hi : i < 2 := hi
    have : i = 0 ∨ i = 1 := by omega
    rcases this with rfl | rfl
    · exact h0
    · exact h1
theorem mt_4 {t : Nat → Nat} {q e : Nat} : mtw t q e (wds.getD 4 []) = true ↔ e - q = 3 ∧ t (q + 0) = 111 ∧ t (q + 1) = 110 ∧ t (q + 2) = 101 := by
  rw [mtw_iff]
  constructor
  · exact fun h => ⟨h.1, h.2 0 (by decide), h.2 1 (by decide), h.2 2 (by decide)⟩
  · rintro ⟨h, h0, h1, h2⟩
    refine ⟨h, fun i hi => ?_⟩
    have hi : i < 3 := hi
    have : i = 0 ∨ i = 1 ∨ i = 2 := by omega
    rcases this with rfl | rfl | rfl
    · exact h0
    · exact h1
    · exact h2
theorem mt_5 {t : Nat → Nat} {q e : Nat} : mtw t q e (wds.getD 5 []) = true ↔ e - q = 3 ∧ t (q + 0) = 109 ∧ t (q + 1) = 97 ∧ t (q + 2) = 110 := by
  rw [mtw_iff]
  constructor
  · exact fun h => ⟨h.1, h.2 0 (by decide), h.2 1 (by decide), h.2 2 (by decide)⟩
  · rintro ⟨h, h0, h1, h2⟩
    refine ⟨h, fun i hi => ?_⟩
    have hi : i < 3 := hi
    have : i = 0 ∨ i = 1 ∨ i = 2 := by omega
    rcases this with rfl | rfl | rfl
    · exact h0
    · exact h1
    · exact h2
theorem mt_6 {t : Nat → Nat} {q e : Nat} : mtw t q e (wds.getD 6 []) = true ↔ e - q = 3 ∧ t (q + 0) = 100 ∧ t (q + 1) = 111 ∧ t (q + 2) = 103 := by
  rw [mtw_iff]
  constructor
  · exact fun h => ⟨h.1, h.2 0 (by decide), h.2 1 (by decide), h.2 2 (by decide)⟩
  · rintro ⟨h, h0, h1, h2⟩
    refine ⟨h, fun i hi => ?_⟩
    have hi : i < 3 := hi
    have : i = 0 ∨ i = 1 ∨ i = 2 := by omega
    rcases this with rfl | rfl | rfl
    · exact h0
    · exact h1
    · exact h2
theorem mt_7 {t : Nat → Nat} {q e : Nat} : mtw t q e (wds.getD 7 []) = true ↔ e - q = 4 ∧ t (q + 0) = 115 ∧ t (q + 1) = 101 ∧ t (q + 2) = 101 ∧ t (q + 3) = 115 := by
  rw [mtw_iff]
  constructor
  · exact fun h => ⟨h.1, h.2 0 (by decide), h.2 1 (by decide), h.2 2 (by decide), h.2 3 (by decide)⟩
  · rintro ⟨h, h0, h1, h2, h3⟩
    refine ⟨h, fun i hi => ?_⟩
    have hi : i < 4 := hi
    have : i = 0 ∨ i = 1 ∨ i = 2 ∨ i = 3 := by omega
    rcases this with rfl | rfl | rfl | rfl
    · exact h0
    · exact h1
    · exact h2
    · exact h3
theorem mt_8 {t : Nat → Nat} {q e : Nat} : mtw t q e (wds.getD 8 []) = true ↔ e - q = 5 ∧ t (q + 0) = 108 ∧ t (q + 1) = 105 ∧ t (q + 2) = 107 ∧ t (q + 3) = 101 ∧ t (q + 4) = 115 := by
  rw [mtw_iff]
  constructor
  · exact fun h => ⟨h.1, h.2 0 (by decide), h.2 1 (by decide), h.2 2 (by decide), h.2 3 (by decide), h.2 4 (by decide)⟩
  · rintro ⟨h, h0, h1, h2, h3, h4⟩
    refine ⟨h, fun i hi => ?_⟩
    have hi : i < 5 := hi
    have : i = 0 ∨ i = 1 ∨ i = 2 ∨ i = 3 ∨ i = 4 := by omega
    rcases this with rfl | rfl | rfl | rfl | rfl
    · exact h0
    · exact h1
    · exact h2
    · exact h3
    · exact h4
theorem m_q69 {d q e T : Nat} {t : Nat → Nat} {st draft kept isKept tape : Nat → Int32} {taped pos begun sort fault wrongAt : Int32} {rows places aheads : Nat → Int32} {readings isFound : Int32} {now at_ place rank : Nat → Int32} {nounBits verbBits inner table next : Nat → Int64} {powers : Nat → Int32} {things : Int32} {holding patterns : Nat → Int64} {seeded : Int32} {lanes sizes cells : Nat → Int32} (hT : T ≤ 200) (h1 : taped = nI T) (h2 : ∀ j, j < T → tape j = nI (t j) ∧ t j < 128) (hP : pos = nI e) (hB : begun = nI q) (hq : q ≤ e) (he : sort = 1 → e ≤ T) (he3 : e < 300) (m1 : ¬ (sort = 1 ∧ mtw t q e (wds.getD 1 []) = true)) (m2 : ¬ (sort = 1 ∧ mtw t q e (wds.getD 2 []) = true)) : Go (d + 2) 110 69 [some (.ref 0)] [] (hM st draft kept isKept tape taped pos begun sort fault wrongAt rows places aheads readings isFound now at_ place rank nounBits verbBits inner table next powers things holding patterns seeded lanes sizes cells) (some (.int (if (sort = 1 ∧ mtw t q e (wds.getD 1 []) = true) then 0 else if (sort = 1 ∧ mtw t q e (wds.getD 2 []) = true) then 1 else if (sort = 1 ∧ mtw t q e (wds.getD 3 []) = true) then 2 else if (sort = 1 ∧ mtw t q e (wds.getD 4 []) = true) then 3 else -4))) (hM st draft kept isKept tape taped pos begun sort fault wrongAt rows places aheads readings isFound now at_ place rank nounBits verbBits inner table next powers things holding patterns seeded lanes sizes cells) := by
  refine b_X9_quantifierNow_69 ?_
  refine ⟨_, m_is (d := d) (q := q) (e := e) (n := 2) (f := 0) (a := 110) (b := 111) (t := t) (st := st) (draft := draft) (kept := kept) (isKept := isKept) (tape := tape) (taped := taped) (pos := pos) (begun := begun) (sort := sort) (fault := fault) (wrongAt := wrongAt) (rows := rows) (places := places) (aheads := aheads) (readings := readings) (isFound := isFound) (now := now) (at_ := at_) (place := place) (rank := rank) (nounBits := nounBits) (verbBits := verbBits) (inner := inner) (table := table) (next := next) (powers := powers) (things := things) (holding := holding) (patterns := patterns) (seeded := seeded) (lanes := lanes) (sizes := sizes) (cells := cells) hT h1 h2 hP hB hq he he3 (by decide) (by decide) (by decide) (by decide), ?_⟩
  by_cases c3_0 : sort = 1 ∧ e - q = 2 ∧ t (q + 0) = 110 ∧ t (q + 0 + 1) = 111
  · rw [if_pos c3_0]
    refine cn (by decide) ?_
    have m3 : (sort = 1 ∧ mtw t q e (wds.getD 3 []) = true) := ⟨c3_0.1, mt_3.mpr ⟨c3_0.2.1, c3_0.2.2.1, c3_0.2.2.2⟩⟩
    exact ⟨by rw [if_neg m1, if_neg m2, if_pos m3], rfl⟩
  · rw [if_neg c3_0]
    refine cy rfl ?_
    have m3 : ¬ (sort = 1 ∧ mtw t q e (wds.getD 3 []) = true) := fun z => c3_0 ⟨z.1, (mt_3.mp z.2).1, (mt_3.mp z.2).2.1, (mt_3.mp z.2).2.2⟩
    refine ⟨_, m_is (d := d) (q := q) (e := e) (n := 3) (f := 0) (a := 111) (b := 110) (t := t) (st := st) (draft := draft) (kept := kept) (isKept := isKept) (tape := tape) (taped := taped) (pos := pos) (begun := begun) (sort := sort) (fault := fault) (wrongAt := wrongAt) (rows := rows) (places := places) (aheads := aheads) (readings := readings) (isFound := isFound) (now := now) (at_ := at_) (place := place) (rank := rank) (nounBits := nounBits) (verbBits := verbBits) (inner := inner) (table := table) (next := next) (powers := powers) (things := things) (holding := holding) (patterns := patterns) (seeded := seeded) (lanes := lanes) (sizes := sizes) (cells := cells) hT h1 h2 hP hB hq he he3 (by decide) (by decide) (by decide) (by decide), ?_⟩
    by_cases c4_0 : sort = 1 ∧ e - q = 3 ∧ t (q + 0) = 111 ∧ t (q + 0 + 1) = 110
    · rw [if_pos c4_0]
      refine cn (by decide) ?_
      refine ⟨_, m_is (d := d) (q := q) (e := e) (n := 3) (f := 1) (a := 110) (b := 101) (t := t) (st := st) (draft := draft) (kept := kept) (isKept := isKept) (tape := tape) (taped := taped) (pos := pos) (begun := begun) (sort := sort) (fault := fault) (wrongAt := wrongAt) (rows := rows) (places := places) (aheads := aheads) (readings := readings) (isFound := isFound) (now := now) (at_ := at_) (place := place) (rank := rank) (nounBits := nounBits) (verbBits := verbBits) (inner := inner) (table := table) (next := next) (powers := powers) (things := things) (holding := holding) (patterns := patterns) (seeded := seeded) (lanes := lanes) (sizes := sizes) (cells := cells) hT h1 h2 hP hB hq he he3 (by decide) (by decide) (by decide) (by decide), ?_⟩
      by_cases c4_1 : sort = 1 ∧ e - q = 3 ∧ t (q + 1) = 110 ∧ t (q + 1 + 1) = 101
      · rw [if_pos c4_1]
        refine cn (by decide) ?_
        have m4 : (sort = 1 ∧ mtw t q e (wds.getD 4 []) = true) := ⟨c4_1.1, mt_4.mpr ⟨c4_1.2.1, c4_0.2.2.1, c4_0.2.2.2, c4_1.2.2.2⟩⟩
        exact ⟨by rw [if_neg m1, if_neg m2, if_neg m3, if_pos m4], rfl⟩
      · rw [if_neg c4_1]
        refine cy rfl ?_
        have m4 : ¬ (sort = 1 ∧ mtw t q e (wds.getD 4 []) = true) := fun z => c4_1 ⟨z.1, (mt_4.mp z.2).1, (mt_4.mp z.2).2.2.1, (mt_4.mp z.2).2.2.2⟩
        exact ⟨by rw [if_neg m1, if_neg m2, if_neg m3, if_neg m4], rfl⟩
    · rw [if_neg c4_0]
      refine cy rfl ?_
      have m4 : ¬ (sort = 1 ∧ mtw t q e (wds.getD 4 []) = true) := fun z => c4_0 ⟨z.1, (mt_4.mp z.2).1, (mt_4.mp z.2).2.1, (mt_4.mp z.2).2.2.1⟩
      exact ⟨by rw [if_neg m1, if_neg m2, if_neg m3, if_neg m4], rfl⟩
theorem m_q41 {d q e T : Nat} {t : Nat → Nat} {st draft kept isKept tape : Nat → Int32} {taped pos begun sort fault wrongAt : Int32} {rows places aheads : Nat → Int32} {readings isFound : Int32} {now at_ place rank : Nat → Int32} {nounBits verbBits inner table next : Nat → Int64} {powers : Nat → Int32} {things : Int32} {holding patterns : Nat → Int64} {seeded : Int32} {lanes sizes cells : Nat → Int32} (hT : T ≤ 200) (h1 : taped = nI T) (h2 : ∀ j, j < T → tape j = nI (t j) ∧ t j < 128) (hP : pos = nI e) (hB : begun = nI q) (hq : q ≤ e) (he : sort = 1 → e ≤ T) (he3 : e < 300) (m1 : ¬ (sort = 1 ∧ mtw t q e (wds.getD 1 []) = true)) : Go (d + 2) 110 41 [some (.ref 0)] [] (hM st draft kept isKept tape taped pos begun sort fault wrongAt rows places aheads readings isFound now at_ place rank nounBits verbBits inner table next powers things holding patterns seeded lanes sizes cells) (some (.int (if (sort = 1 ∧ mtw t q e (wds.getD 1 []) = true) then 0 else if (sort = 1 ∧ mtw t q e (wds.getD 2 []) = true) then 1 else if (sort = 1 ∧ mtw t q e (wds.getD 3 []) = true) then 2 else if (sort = 1 ∧ mtw t q e (wds.getD 4 []) = true) then 3 else -4))) (hM st draft kept isKept tape taped pos begun sort fault wrongAt rows places aheads readings isFound now at_ place rank nounBits verbBits inner table next powers things holding patterns seeded lanes sizes cells) := by
  refine b_X9_quantifierNow_41 ?_
  refine ⟨_, m_is (d := d) (q := q) (e := e) (n := 4) (f := 0) (a := 115) (b := 111) (t := t) (st := st) (draft := draft) (kept := kept) (isKept := isKept) (tape := tape) (taped := taped) (pos := pos) (begun := begun) (sort := sort) (fault := fault) (wrongAt := wrongAt) (rows := rows) (places := places) (aheads := aheads) (readings := readings) (isFound := isFound) (now := now) (at_ := at_) (place := place) (rank := rank) (nounBits := nounBits) (verbBits := verbBits) (inner := inner) (table := table) (next := next) (powers := powers) (things := things) (holding := holding) (patterns := patterns) (seeded := seeded) (lanes := lanes) (sizes := sizes) (cells := cells) hT h1 h2 hP hB hq he he3 (by decide) (by decide) (by decide) (by decide), ?_⟩
  by_cases c2_0 : sort = 1 ∧ e - q = 4 ∧ t (q + 0) = 115 ∧ t (q + 0 + 1) = 111
  · rw [if_pos c2_0]
    refine cn (by decide) ?_
    refine ⟨_, m_is (d := d) (q := q) (e := e) (n := 4) (f := 2) (a := 109) (b := 101) (t := t) (st := st) (draft := draft) (kept := kept) (isKept := isKept) (tape := tape) (taped := taped) (pos := pos) (begun := begun) (sort := sort) (fault := fault) (wrongAt := wrongAt) (rows := rows) (places := places) (aheads := aheads) (readings := readings) (isFound := isFound) (now := now) (at_ := at_) (place := place) (rank := rank) (nounBits := nounBits) (verbBits := verbBits) (inner := inner) (table := table) (next := next) (powers := powers) (things := things) (holding := holding) (patterns := patterns) (seeded := seeded) (lanes := lanes) (sizes := sizes) (cells := cells) hT h1 h2 hP hB hq he he3 (by decide) (by decide) (by decide) (by decide), ?_⟩
    by_cases c2_2 : sort = 1 ∧ e - q = 4 ∧ t (q + 2) = 109 ∧ t (q + 2 + 1) = 101
    · rw [if_pos c2_2]
      refine cn (by decide) ?_
      have m2 : (sort = 1 ∧ mtw t q e (wds.getD 2 []) = true) := ⟨c2_2.1, mt_2.mpr ⟨c2_2.2.1, c2_0.2.2.1, c2_0.2.2.2, c2_2.2.2.1, c2_2.2.2.2⟩⟩
      exact ⟨by rw [if_neg m1, if_pos m2], rfl⟩
    · rw [if_neg c2_2]
      refine cy rfl ?_
      have m2 : ¬ (sort = 1 ∧ mtw t q e (wds.getD 2 []) = true) := fun z => c2_2 ⟨z.1, (mt_2.mp z.2).1, (mt_2.mp z.2).2.2.2.1, (mt_2.mp z.2).2.2.2.2⟩
      exact m_q69 hT h1 h2 hP hB hq he he3 m1 m2
  · rw [if_neg c2_0]
    refine cy rfl ?_
    have m2 : ¬ (sort = 1 ∧ mtw t q e (wds.getD 2 []) = true) := fun z => c2_0 ⟨z.1, (mt_2.mp z.2).1, (mt_2.mp z.2).2.1, (mt_2.mp z.2).2.2.1⟩
    exact m_q69 hT h1 h2 hP hB hq he he3 m1 m2
theorem m_quant {d q e T : Nat} {t : Nat → Nat} {st draft kept isKept tape : Nat → Int32} {taped pos begun sort fault wrongAt : Int32} {rows places aheads : Nat → Int32} {readings isFound : Int32} {now at_ place rank : Nat → Int32} {nounBits verbBits inner table next : Nat → Int64} {powers : Nat → Int32} {things : Int32} {holding patterns : Nat → Int64} {seeded : Int32} {lanes sizes cells : Nat → Int32} (hT : T ≤ 200) (h1 : taped = nI T) (h2 : ∀ j, j < T → tape j = nI (t j) ∧ t j < 128) (hP : pos = nI e) (hB : begun = nI q) (hq : q ≤ e) (he : sort = 1 → e ≤ T) (he3 : e < 300) : Go (d + 2) 110 0 [some (.ref 0)] [] (hM st draft kept isKept tape taped pos begun sort fault wrongAt rows places aheads readings isFound now at_ place rank nounBits verbBits inner table next powers things holding patterns seeded lanes sizes cells) (some (.int (if (sort = 1 ∧ mtw t q e (wds.getD 1 []) = true) then 0 else if (sort = 1 ∧ mtw t q e (wds.getD 2 []) = true) then 1 else if (sort = 1 ∧ mtw t q e (wds.getD 3 []) = true) then 2 else if (sort = 1 ∧ mtw t q e (wds.getD 4 []) = true) then 3 else -4))) (hM st draft kept isKept tape taped pos begun sort fault wrongAt rows places aheads readings isFound now at_ place rank nounBits verbBits inner table next powers things holding patterns seeded lanes sizes cells) := by
  refine b_X9_quantifierNow_0 ?_
  refine ⟨_, m_is (d := d) (q := q) (e := e) (n := 5) (f := 0) (a := 101) (b := 118) (t := t) (st := st) (draft := draft) (kept := kept) (isKept := isKept) (tape := tape) (taped := taped) (pos := pos) (begun := begun) (sort := sort) (fault := fault) (wrongAt := wrongAt) (rows := rows) (places := places) (aheads := aheads) (readings := readings) (isFound := isFound) (now := now) (at_ := at_) (place := place) (rank := rank) (nounBits := nounBits) (verbBits := verbBits) (inner := inner) (table := table) (next := next) (powers := powers) (things := things) (holding := holding) (patterns := patterns) (seeded := seeded) (lanes := lanes) (sizes := sizes) (cells := cells) hT h1 h2 hP hB hq he he3 (by decide) (by decide) (by decide) (by decide), ?_⟩
  by_cases c1_0 : sort = 1 ∧ e - q = 5 ∧ t (q + 0) = 101 ∧ t (q + 0 + 1) = 118
  · rw [if_pos c1_0]
    refine cn (by decide) ?_
    refine ⟨_, m_is (d := d) (q := q) (e := e) (n := 5) (f := 2) (a := 101) (b := 114) (t := t) (st := st) (draft := draft) (kept := kept) (isKept := isKept) (tape := tape) (taped := taped) (pos := pos) (begun := begun) (sort := sort) (fault := fault) (wrongAt := wrongAt) (rows := rows) (places := places) (aheads := aheads) (readings := readings) (isFound := isFound) (now := now) (at_ := at_) (place := place) (rank := rank) (nounBits := nounBits) (verbBits := verbBits) (inner := inner) (table := table) (next := next) (powers := powers) (things := things) (holding := holding) (patterns := patterns) (seeded := seeded) (lanes := lanes) (sizes := sizes) (cells := cells) hT h1 h2 hP hB hq he he3 (by decide) (by decide) (by decide) (by decide), ?_⟩
    by_cases c1_2 : sort = 1 ∧ e - q = 5 ∧ t (q + 2) = 101 ∧ t (q + 2 + 1) = 114
    · rw [if_pos c1_2]
      refine cn (by decide) ?_
      refine ⟨_, m_is (d := d) (q := q) (e := e) (n := 5) (f := 3) (a := 114) (b := 121) (t := t) (st := st) (draft := draft) (kept := kept) (isKept := isKept) (tape := tape) (taped := taped) (pos := pos) (begun := begun) (sort := sort) (fault := fault) (wrongAt := wrongAt) (rows := rows) (places := places) (aheads := aheads) (readings := readings) (isFound := isFound) (now := now) (at_ := at_) (place := place) (rank := rank) (nounBits := nounBits) (verbBits := verbBits) (inner := inner) (table := table) (next := next) (powers := powers) (things := things) (holding := holding) (patterns := patterns) (seeded := seeded) (lanes := lanes) (sizes := sizes) (cells := cells) hT h1 h2 hP hB hq he he3 (by decide) (by decide) (by decide) (by decide), ?_⟩
      by_cases c1_3 : sort = 1 ∧ e - q = 5 ∧ t (q + 3) = 114 ∧ t (q + 3 + 1) = 121
      · rw [if_pos c1_3]
        refine cn (by decide) ?_
        have m1 : (sort = 1 ∧ mtw t q e (wds.getD 1 []) = true) := ⟨c1_3.1, mt_1.mpr ⟨c1_3.2.1, c1_0.2.2.1, c1_0.2.2.2, c1_2.2.2.1, c1_2.2.2.2, c1_3.2.2.2⟩⟩
        exact ⟨by rw [if_pos m1], rfl⟩
      · rw [if_neg c1_3]
        refine cy rfl ?_
        have m1 : ¬ (sort = 1 ∧ mtw t q e (wds.getD 1 []) = true) := fun z => c1_3 ⟨z.1, (mt_1.mp z.2).1, (mt_1.mp z.2).2.2.2.2.1, (mt_1.mp z.2).2.2.2.2.2⟩
        exact m_q41 hT h1 h2 hP hB hq he he3 m1
    · rw [if_neg c1_2]
      refine cy rfl ?_
      have m1 : ¬ (sort = 1 ∧ mtw t q e (wds.getD 1 []) = true) := fun z => c1_2 ⟨z.1, (mt_1.mp z.2).1, (mt_1.mp z.2).2.2.2.1, (mt_1.mp z.2).2.2.2.2.1⟩
      exact m_q41 hT h1 h2 hP hB hq he he3 m1
  · rw [if_neg c1_0]
    refine cy rfl ?_
    have m1 : ¬ (sort = 1 ∧ mtw t q e (wds.getD 1 []) = true) := fun z => c1_0 ⟨z.1, (mt_1.mp z.2).1, (mt_1.mp z.2).2.1, (mt_1.mp z.2).2.2.1⟩
    exact m_q41 hT h1 h2 hP hB hq he he3 m1
theorem m_noun {d q e T : Nat} {t : Nat → Nat} {st draft kept isKept tape : Nat → Int32} {taped pos begun sort fault wrongAt : Int32} {rows places aheads : Nat → Int32} {readings isFound : Int32} {now at_ place rank : Nat → Int32} {nounBits verbBits inner table next : Nat → Int64} {powers : Nat → Int32} {things : Int32} {holding patterns : Nat → Int64} {seeded : Int32} {lanes sizes cells : Nat → Int32} (hT : T ≤ 200) (h1 : taped = nI T) (h2 : ∀ j, j < T → tape j = nI (t j) ∧ t j < 128) (hP : pos = nI e) (hB : begun = nI q) (hq : q ≤ e) (he : sort = 1 → e ≤ T) (he3 : e < 300) : Go (d + 2) 111 0 [some (.ref 0)] [] (hM st draft kept isKept tape taped pos begun sort fault wrongAt rows places aheads readings isFound now at_ place rank nounBits verbBits inner table next powers things holding patterns seeded lanes sizes cells) (some (.int (if (sort = 1 ∧ mtw t q e (wds.getD 5 []) = true) then 0 else if (sort = 1 ∧ mtw t q e (wds.getD 6 []) = true) then 1 else -4))) (hM st draft kept isKept tape taped pos begun sort fault wrongAt rows places aheads readings isFound now at_ place rank nounBits verbBits inner table next powers things holding patterns seeded lanes sizes cells) := by
  refine b_X9_nounNow_0 ?_
  refine ⟨_, m_is (d := d) (q := q) (e := e) (n := 3) (f := 0) (a := 109) (b := 97) (t := t) (st := st) (draft := draft) (kept := kept) (isKept := isKept) (tape := tape) (taped := taped) (pos := pos) (begun := begun) (sort := sort) (fault := fault) (wrongAt := wrongAt) (rows := rows) (places := places) (aheads := aheads) (readings := readings) (isFound := isFound) (now := now) (at_ := at_) (place := place) (rank := rank) (nounBits := nounBits) (verbBits := verbBits) (inner := inner) (table := table) (next := next) (powers := powers) (things := things) (holding := holding) (patterns := patterns) (seeded := seeded) (lanes := lanes) (sizes := sizes) (cells := cells) hT h1 h2 hP hB hq he he3 (by decide) (by decide) (by decide) (by decide), ?_⟩
  by_cases c5_0 : sort = 1 ∧ e - q = 3 ∧ t (q + 0) = 109 ∧ t (q + 0 + 1) = 97
  · rw [if_pos c5_0]
    refine cn (by decide) ?_
    refine ⟨_, m_is (d := d) (q := q) (e := e) (n := 3) (f := 1) (a := 97) (b := 110) (t := t) (st := st) (draft := draft) (kept := kept) (isKept := isKept) (tape := tape) (taped := taped) (pos := pos) (begun := begun) (sort := sort) (fault := fault) (wrongAt := wrongAt) (rows := rows) (places := places) (aheads := aheads) (readings := readings) (isFound := isFound) (now := now) (at_ := at_) (place := place) (rank := rank) (nounBits := nounBits) (verbBits := verbBits) (inner := inner) (table := table) (next := next) (powers := powers) (things := things) (holding := holding) (patterns := patterns) (seeded := seeded) (lanes := lanes) (sizes := sizes) (cells := cells) hT h1 h2 hP hB hq he he3 (by decide) (by decide) (by decide) (by decide), ?_⟩
    by_cases c5_1 : sort = 1 ∧ e - q = 3 ∧ t (q + 1) = 97 ∧ t (q + 1 + 1) = 110
    · rw [if_pos c5_1]
      refine cn (by decide) ?_
      have m5 : (sort = 1 ∧ mtw t q e (wds.getD 5 []) = true) := ⟨c5_1.1, mt_5.mpr ⟨c5_1.2.1, c5_0.2.2.1, c5_0.2.2.2, c5_1.2.2.2⟩⟩
      exact ⟨by rw [if_pos m5], rfl⟩
    · rw [if_neg c5_1]
      refine cy rfl ?_
      have m5 : ¬ (sort = 1 ∧ mtw t q e (wds.getD 5 []) = true) := fun z => c5_1 ⟨z.1, (mt_5.mp z.2).1, (mt_5.mp z.2).2.2.1, (mt_5.mp z.2).2.2.2⟩
      refine ⟨_, m_is (d := d) (q := q) (e := e) (n := 3) (f := 0) (a := 100) (b := 111) (t := t) (st := st) (draft := draft) (kept := kept) (isKept := isKept) (tape := tape) (taped := taped) (pos := pos) (begun := begun) (sort := sort) (fault := fault) (wrongAt := wrongAt) (rows := rows) (places := places) (aheads := aheads) (readings := readings) (isFound := isFound) (now := now) (at_ := at_) (place := place) (rank := rank) (nounBits := nounBits) (verbBits := verbBits) (inner := inner) (table := table) (next := next) (powers := powers) (things := things) (holding := holding) (patterns := patterns) (seeded := seeded) (lanes := lanes) (sizes := sizes) (cells := cells) hT h1 h2 hP hB hq he he3 (by decide) (by decide) (by decide) (by decide), ?_⟩
      by_cases e6_0 : sort = 1 ∧ e - q = 3 ∧ t (q + 0) = 100 ∧ t (q + 0 + 1) = 111
      · rw [if_pos e6_0]
        refine cn (by decide) ?_
        refine ⟨_, m_is (d := d) (q := q) (e := e) (n := 3) (f := 1) (a := 111) (b := 103) (t := t) (st := st) (draft := draft) (kept := kept) (isKept := isKept) (tape := tape) (taped := taped) (pos := pos) (begun := begun) (sort := sort) (fault := fault) (wrongAt := wrongAt) (rows := rows) (places := places) (aheads := aheads) (readings := readings) (isFound := isFound) (now := now) (at_ := at_) (place := place) (rank := rank) (nounBits := nounBits) (verbBits := verbBits) (inner := inner) (table := table) (next := next) (powers := powers) (things := things) (holding := holding) (patterns := patterns) (seeded := seeded) (lanes := lanes) (sizes := sizes) (cells := cells) hT h1 h2 hP hB hq he he3 (by decide) (by decide) (by decide) (by decide), ?_⟩
        by_cases e6_1 : sort = 1 ∧ e - q = 3 ∧ t (q + 1) = 111 ∧ t (q + 1 + 1) = 103
        · rw [if_pos e6_1]
          refine cn (by decide) ?_
          have m6 : (sort = 1 ∧ mtw t q e (wds.getD 6 []) = true) := ⟨e6_1.1, mt_6.mpr ⟨e6_1.2.1, e6_0.2.2.1, e6_0.2.2.2, e6_1.2.2.2⟩⟩
          exact ⟨by rw [if_neg m5, if_pos m6], rfl⟩
        · rw [if_neg e6_1]
          refine cy rfl ?_
          have m6 : ¬ (sort = 1 ∧ mtw t q e (wds.getD 6 []) = true) := fun z => e6_1 ⟨z.1, (mt_6.mp z.2).1, (mt_6.mp z.2).2.2.1, (mt_6.mp z.2).2.2.2⟩
          exact ⟨by rw [if_neg m5, if_neg m6], rfl⟩
      · rw [if_neg e6_0]
        refine cy rfl ?_
        have m6 : ¬ (sort = 1 ∧ mtw t q e (wds.getD 6 []) = true) := fun z => e6_0 ⟨z.1, (mt_6.mp z.2).1, (mt_6.mp z.2).2.1, (mt_6.mp z.2).2.2.1⟩
        exact ⟨by rw [if_neg m5, if_neg m6], rfl⟩
  · rw [if_neg c5_0]
    refine cy rfl ?_
    have m5 : ¬ (sort = 1 ∧ mtw t q e (wds.getD 5 []) = true) := fun z => c5_0 ⟨z.1, (mt_5.mp z.2).1, (mt_5.mp z.2).2.1, (mt_5.mp z.2).2.2.1⟩
    refine ⟨_, m_is (d := d) (q := q) (e := e) (n := 3) (f := 0) (a := 100) (b := 111) (t := t) (st := st) (draft := draft) (kept := kept) (isKept := isKept) (tape := tape) (taped := taped) (pos := pos) (begun := begun) (sort := sort) (fault := fault) (wrongAt := wrongAt) (rows := rows) (places := places) (aheads := aheads) (readings := readings) (isFound := isFound) (now := now) (at_ := at_) (place := place) (rank := rank) (nounBits := nounBits) (verbBits := verbBits) (inner := inner) (table := table) (next := next) (powers := powers) (things := things) (holding := holding) (patterns := patterns) (seeded := seeded) (lanes := lanes) (sizes := sizes) (cells := cells) hT h1 h2 hP hB hq he he3 (by decide) (by decide) (by decide) (by decide), ?_⟩
    by_cases e6_0 : sort = 1 ∧ e - q = 3 ∧ t (q + 0) = 100 ∧ t (q + 0 + 1) = 111
    · rw [if_pos e6_0]
      refine cn (by decide) ?_
      refine ⟨_, m_is (d := d) (q := q) (e := e) (n := 3) (f := 1) (a := 111) (b := 103) (t := t) (st := st) (draft := draft) (kept := kept) (isKept := isKept) (tape := tape) (taped := taped) (pos := pos) (begun := begun) (sort := sort) (fault := fault) (wrongAt := wrongAt) (rows := rows) (places := places) (aheads := aheads) (readings := readings) (isFound := isFound) (now := now) (at_ := at_) (place := place) (rank := rank) (nounBits := nounBits) (verbBits := verbBits) (inner := inner) (table := table) (next := next) (powers := powers) (things := things) (holding := holding) (patterns := patterns) (seeded := seeded) (lanes := lanes) (sizes := sizes) (cells := cells) hT h1 h2 hP hB hq he he3 (by decide) (by decide) (by decide) (by decide), ?_⟩
      by_cases e6_1 : sort = 1 ∧ e - q = 3 ∧ t (q + 1) = 111 ∧ t (q + 1 + 1) = 103
      · rw [if_pos e6_1]
        refine cn (by decide) ?_
        have m6 : (sort = 1 ∧ mtw t q e (wds.getD 6 []) = true) := ⟨e6_1.1, mt_6.mpr ⟨e6_1.2.1, e6_0.2.2.1, e6_0.2.2.2, e6_1.2.2.2⟩⟩
        exact ⟨by rw [if_neg m5, if_pos m6], rfl⟩
      · rw [if_neg e6_1]
        refine cy rfl ?_
        have m6 : ¬ (sort = 1 ∧ mtw t q e (wds.getD 6 []) = true) := fun z => e6_1 ⟨z.1, (mt_6.mp z.2).1, (mt_6.mp z.2).2.2.1, (mt_6.mp z.2).2.2.2⟩
        exact ⟨by rw [if_neg m5, if_neg m6], rfl⟩
    · rw [if_neg e6_0]
      refine cy rfl ?_
      have m6 : ¬ (sort = 1 ∧ mtw t q e (wds.getD 6 []) = true) := fun z => e6_0 ⟨z.1, (mt_6.mp z.2).1, (mt_6.mp z.2).2.1, (mt_6.mp z.2).2.2.1⟩
      exact ⟨by rw [if_neg m5, if_neg m6], rfl⟩
theorem m_verb {d q e T : Nat} {t : Nat → Nat} {st draft kept isKept tape : Nat → Int32} {taped pos begun sort fault wrongAt : Int32} {rows places aheads : Nat → Int32} {readings isFound : Int32} {now at_ place rank : Nat → Int32} {nounBits verbBits inner table next : Nat → Int64} {powers : Nat → Int32} {things : Int32} {holding patterns : Nat → Int64} {seeded : Int32} {lanes sizes cells : Nat → Int32} (hT : T ≤ 200) (h1 : taped = nI T) (h2 : ∀ j, j < T → tape j = nI (t j) ∧ t j < 128) (hP : pos = nI e) (hB : begun = nI q) (hq : q ≤ e) (he : sort = 1 → e ≤ T) (he3 : e < 300) : Go (d + 2) 112 0 [some (.ref 0)] [] (hM st draft kept isKept tape taped pos begun sort fault wrongAt rows places aheads readings isFound now at_ place rank nounBits verbBits inner table next powers things holding patterns seeded lanes sizes cells) (some (.int (if (sort = 1 ∧ mtw t q e (wds.getD 7 []) = true) then 0 else if (sort = 1 ∧ mtw t q e (wds.getD 8 []) = true) then 1 else -4))) (hM st draft kept isKept tape taped pos begun sort fault wrongAt rows places aheads readings isFound now at_ place rank nounBits verbBits inner table next powers things holding patterns seeded lanes sizes cells) := by
  refine b_X9_verbNow_0 ?_
  refine ⟨_, m_is (d := d) (q := q) (e := e) (n := 4) (f := 0) (a := 115) (b := 101) (t := t) (st := st) (draft := draft) (kept := kept) (isKept := isKept) (tape := tape) (taped := taped) (pos := pos) (begun := begun) (sort := sort) (fault := fault) (wrongAt := wrongAt) (rows := rows) (places := places) (aheads := aheads) (readings := readings) (isFound := isFound) (now := now) (at_ := at_) (place := place) (rank := rank) (nounBits := nounBits) (verbBits := verbBits) (inner := inner) (table := table) (next := next) (powers := powers) (things := things) (holding := holding) (patterns := patterns) (seeded := seeded) (lanes := lanes) (sizes := sizes) (cells := cells) hT h1 h2 hP hB hq he he3 (by decide) (by decide) (by decide) (by decide), ?_⟩
  by_cases c7_0 : sort = 1 ∧ e - q = 4 ∧ t (q + 0) = 115 ∧ t (q + 0 + 1) = 101
  · rw [if_pos c7_0]
    refine cn (by decide) ?_
    refine ⟨_, m_is (d := d) (q := q) (e := e) (n := 4) (f := 2) (a := 101) (b := 115) (t := t) (st := st) (draft := draft) (kept := kept) (isKept := isKept) (tape := tape) (taped := taped) (pos := pos) (begun := begun) (sort := sort) (fault := fault) (wrongAt := wrongAt) (rows := rows) (places := places) (aheads := aheads) (readings := readings) (isFound := isFound) (now := now) (at_ := at_) (place := place) (rank := rank) (nounBits := nounBits) (verbBits := verbBits) (inner := inner) (table := table) (next := next) (powers := powers) (things := things) (holding := holding) (patterns := patterns) (seeded := seeded) (lanes := lanes) (sizes := sizes) (cells := cells) hT h1 h2 hP hB hq he he3 (by decide) (by decide) (by decide) (by decide), ?_⟩
    by_cases c7_2 : sort = 1 ∧ e - q = 4 ∧ t (q + 2) = 101 ∧ t (q + 2 + 1) = 115
    · rw [if_pos c7_2]
      refine cn (by decide) ?_
      have m7 : (sort = 1 ∧ mtw t q e (wds.getD 7 []) = true) := ⟨c7_2.1, mt_7.mpr ⟨c7_2.2.1, c7_0.2.2.1, c7_0.2.2.2, c7_2.2.2.1, c7_2.2.2.2⟩⟩
      exact ⟨by rw [if_pos m7], rfl⟩
    · rw [if_neg c7_2]
      refine cy rfl ?_
      have m7 : ¬ (sort = 1 ∧ mtw t q e (wds.getD 7 []) = true) := fun z => c7_2 ⟨z.1, (mt_7.mp z.2).1, (mt_7.mp z.2).2.2.2.1, (mt_7.mp z.2).2.2.2.2⟩
      refine ⟨_, m_is (d := d) (q := q) (e := e) (n := 5) (f := 0) (a := 108) (b := 105) (t := t) (st := st) (draft := draft) (kept := kept) (isKept := isKept) (tape := tape) (taped := taped) (pos := pos) (begun := begun) (sort := sort) (fault := fault) (wrongAt := wrongAt) (rows := rows) (places := places) (aheads := aheads) (readings := readings) (isFound := isFound) (now := now) (at_ := at_) (place := place) (rank := rank) (nounBits := nounBits) (verbBits := verbBits) (inner := inner) (table := table) (next := next) (powers := powers) (things := things) (holding := holding) (patterns := patterns) (seeded := seeded) (lanes := lanes) (sizes := sizes) (cells := cells) hT h1 h2 hP hB hq he he3 (by decide) (by decide) (by decide) (by decide), ?_⟩
      by_cases e8_0 : sort = 1 ∧ e - q = 5 ∧ t (q + 0) = 108 ∧ t (q + 0 + 1) = 105
      · rw [if_pos e8_0]
        refine cn (by decide) ?_
        refine ⟨_, m_is (d := d) (q := q) (e := e) (n := 5) (f := 2) (a := 107) (b := 101) (t := t) (st := st) (draft := draft) (kept := kept) (isKept := isKept) (tape := tape) (taped := taped) (pos := pos) (begun := begun) (sort := sort) (fault := fault) (wrongAt := wrongAt) (rows := rows) (places := places) (aheads := aheads) (readings := readings) (isFound := isFound) (now := now) (at_ := at_) (place := place) (rank := rank) (nounBits := nounBits) (verbBits := verbBits) (inner := inner) (table := table) (next := next) (powers := powers) (things := things) (holding := holding) (patterns := patterns) (seeded := seeded) (lanes := lanes) (sizes := sizes) (cells := cells) hT h1 h2 hP hB hq he he3 (by decide) (by decide) (by decide) (by decide), ?_⟩
        by_cases e8_2 : sort = 1 ∧ e - q = 5 ∧ t (q + 2) = 107 ∧ t (q + 2 + 1) = 101
        · rw [if_pos e8_2]
          refine cn (by decide) ?_
          refine ⟨_, m_is (d := d) (q := q) (e := e) (n := 5) (f := 3) (a := 101) (b := 115) (t := t) (st := st) (draft := draft) (kept := kept) (isKept := isKept) (tape := tape) (taped := taped) (pos := pos) (begun := begun) (sort := sort) (fault := fault) (wrongAt := wrongAt) (rows := rows) (places := places) (aheads := aheads) (readings := readings) (isFound := isFound) (now := now) (at_ := at_) (place := place) (rank := rank) (nounBits := nounBits) (verbBits := verbBits) (inner := inner) (table := table) (next := next) (powers := powers) (things := things) (holding := holding) (patterns := patterns) (seeded := seeded) (lanes := lanes) (sizes := sizes) (cells := cells) hT h1 h2 hP hB hq he he3 (by decide) (by decide) (by decide) (by decide), ?_⟩
          by_cases e8_3 : sort = 1 ∧ e - q = 5 ∧ t (q + 3) = 101 ∧ t (q + 3 + 1) = 115
          · rw [if_pos e8_3]
            refine cn (by decide) ?_
            have m8 : (sort = 1 ∧ mtw t q e (wds.getD 8 []) = true) := ⟨e8_3.1, mt_8.mpr ⟨e8_3.2.1, e8_0.2.2.1, e8_0.2.2.2, e8_2.2.2.1, e8_2.2.2.2, e8_3.2.2.2⟩⟩
            exact ⟨by rw [if_neg m7, if_pos m8], rfl⟩
          · rw [if_neg e8_3]
            refine cy rfl ?_
            have m8 : ¬ (sort = 1 ∧ mtw t q e (wds.getD 8 []) = true) := fun z => e8_3 ⟨z.1, (mt_8.mp z.2).1, (mt_8.mp z.2).2.2.2.2.1, (mt_8.mp z.2).2.2.2.2.2⟩
            exact ⟨by rw [if_neg m7, if_neg m8], rfl⟩
        · rw [if_neg e8_2]
          refine cy rfl ?_
          have m8 : ¬ (sort = 1 ∧ mtw t q e (wds.getD 8 []) = true) := fun z => e8_2 ⟨z.1, (mt_8.mp z.2).1, (mt_8.mp z.2).2.2.2.1, (mt_8.mp z.2).2.2.2.2.1⟩
          exact ⟨by rw [if_neg m7, if_neg m8], rfl⟩
      · rw [if_neg e8_0]
        refine cy rfl ?_
        have m8 : ¬ (sort = 1 ∧ mtw t q e (wds.getD 8 []) = true) := fun z => e8_0 ⟨z.1, (mt_8.mp z.2).1, (mt_8.mp z.2).2.1, (mt_8.mp z.2).2.2.1⟩
        exact ⟨by rw [if_neg m7, if_neg m8], rfl⟩
  · rw [if_neg c7_0]
    refine cy rfl ?_
    have m7 : ¬ (sort = 1 ∧ mtw t q e (wds.getD 7 []) = true) := fun z => c7_0 ⟨z.1, (mt_7.mp z.2).1, (mt_7.mp z.2).2.1, (mt_7.mp z.2).2.2.1⟩
    refine ⟨_, m_is (d := d) (q := q) (e := e) (n := 5) (f := 0) (a := 108) (b := 105) (t := t) (st := st) (draft := draft) (kept := kept) (isKept := isKept) (tape := tape) (taped := taped) (pos := pos) (begun := begun) (sort := sort) (fault := fault) (wrongAt := wrongAt) (rows := rows) (places := places) (aheads := aheads) (readings := readings) (isFound := isFound) (now := now) (at_ := at_) (place := place) (rank := rank) (nounBits := nounBits) (verbBits := verbBits) (inner := inner) (table := table) (next := next) (powers := powers) (things := things) (holding := holding) (patterns := patterns) (seeded := seeded) (lanes := lanes) (sizes := sizes) (cells := cells) hT h1 h2 hP hB hq he he3 (by decide) (by decide) (by decide) (by decide), ?_⟩
    by_cases e8_0 : sort = 1 ∧ e - q = 5 ∧ t (q + 0) = 108 ∧ t (q + 0 + 1) = 105
    · rw [if_pos e8_0]
      refine cn (by decide) ?_
      refine ⟨_, m_is (d := d) (q := q) (e := e) (n := 5) (f := 2) (a := 107) (b := 101) (t := t) (st := st) (draft := draft) (kept := kept) (isKept := isKept) (tape := tape) (taped := taped) (pos := pos) (begun := begun) (sort := sort) (fault := fault) (wrongAt := wrongAt) (rows := rows) (places := places) (aheads := aheads) (readings := readings) (isFound := isFound) (now := now) (at_ := at_) (place := place) (rank := rank) (nounBits := nounBits) (verbBits := verbBits) (inner := inner) (table := table) (next := next) (powers := powers) (things := things) (holding := holding) (patterns := patterns) (seeded := seeded) (lanes := lanes) (sizes := sizes) (cells := cells) hT h1 h2 hP hB hq he he3 (by decide) (by decide) (by decide) (by decide), ?_⟩
      by_cases e8_2 : sort = 1 ∧ e - q = 5 ∧ t (q + 2) = 107 ∧ t (q + 2 + 1) = 101
      · rw [if_pos e8_2]
        refine cn (by decide) ?_
        refine ⟨_, m_is (d := d) (q := q) (e := e) (n := 5) (f := 3) (a := 101) (b := 115) (t := t) (st := st) (draft := draft) (kept := kept) (isKept := isKept) (tape := tape) (taped := taped) (pos := pos) (begun := begun) (sort := sort) (fault := fault) (wrongAt := wrongAt) (rows := rows) (places := places) (aheads := aheads) (readings := readings) (isFound := isFound) (now := now) (at_ := at_) (place := place) (rank := rank) (nounBits := nounBits) (verbBits := verbBits) (inner := inner) (table := table) (next := next) (powers := powers) (things := things) (holding := holding) (patterns := patterns) (seeded := seeded) (lanes := lanes) (sizes := sizes) (cells := cells) hT h1 h2 hP hB hq he he3 (by decide) (by decide) (by decide) (by decide), ?_⟩
        by_cases e8_3 : sort = 1 ∧ e - q = 5 ∧ t (q + 3) = 101 ∧ t (q + 3 + 1) = 115
        · rw [if_pos e8_3]
          refine cn (by decide) ?_
          have m8 : (sort = 1 ∧ mtw t q e (wds.getD 8 []) = true) := ⟨e8_3.1, mt_8.mpr ⟨e8_3.2.1, e8_0.2.2.1, e8_0.2.2.2, e8_2.2.2.1, e8_2.2.2.2, e8_3.2.2.2⟩⟩
          exact ⟨by rw [if_neg m7, if_pos m8], rfl⟩
        · rw [if_neg e8_3]
          refine cy rfl ?_
          have m8 : ¬ (sort = 1 ∧ mtw t q e (wds.getD 8 []) = true) := fun z => e8_3 ⟨z.1, (mt_8.mp z.2).1, (mt_8.mp z.2).2.2.2.2.1, (mt_8.mp z.2).2.2.2.2.2⟩
          exact ⟨by rw [if_neg m7, if_neg m8], rfl⟩
      · rw [if_neg e8_2]
        refine cy rfl ?_
        have m8 : ¬ (sort = 1 ∧ mtw t q e (wds.getD 8 []) = true) := fun z => e8_2 ⟨z.1, (mt_8.mp z.2).1, (mt_8.mp z.2).2.2.2.1, (mt_8.mp z.2).2.2.2.2.1⟩
        exact ⟨by rw [if_neg m7, if_neg m8], rfl⟩
    · rw [if_neg e8_0]
      refine cy rfl ?_
      have m8 : ¬ (sort = 1 ∧ mtw t q e (wds.getD 8 []) = true) := fun z => e8_0 ⟨z.1, (mt_8.mp z.2).1, (mt_8.mp z.2).2.1, (mt_8.mp z.2).2.2.1⟩
      exact ⟨by rw [if_neg m7, if_neg m8], rfl⟩
theorem m_that {d q e T : Nat} {t : Nat → Nat} {st draft kept isKept tape : Nat → Int32} {taped pos begun sort fault wrongAt : Int32} {rows places aheads : Nat → Int32} {readings isFound : Int32} {now at_ place rank : Nat → Int32} {nounBits verbBits inner table next : Nat → Int64} {powers : Nat → Int32} {things : Int32} {holding patterns : Nat → Int64} {seeded : Int32} {lanes sizes cells : Nat → Int32} (hT : T ≤ 200) (h1 : taped = nI T) (h2 : ∀ j, j < T → tape j = nI (t j) ∧ t j < 128) (hP : pos = nI e) (hB : begun = nI q) (hq : q ≤ e) (he : sort = 1 → e ≤ T) (he3 : e < 300) : Go (d + 2) 113 0 [some (.ref 0)] [] (hM st draft kept isKept tape taped pos begun sort fault wrongAt rows places aheads readings isFound now at_ place rank nounBits verbBits inner table next powers things holding patterns seeded lanes sizes cells) (some (.int (if (sort = 1 ∧ mtw t q e (wds.getD 0 []) = true) then 1 else 0))) (hM st draft kept isKept tape taped pos begun sort fault wrongAt rows places aheads readings isFound now at_ place rank nounBits verbBits inner table next powers things holding patterns seeded lanes sizes cells) := by
  refine b_X9_isThat_0 ⟨_, m_is (d := d) (q := q) (e := e) (n := 4) (f := 0) (a := 116) (b := 104) (t := t) (st := st) (draft := draft) (kept := kept) (isKept := isKept) (tape := tape) (taped := taped) (pos := pos) (begun := begun) (sort := sort) (fault := fault) (wrongAt := wrongAt) (rows := rows) (places := places) (aheads := aheads) (readings := readings) (isFound := isFound) (now := now) (at_ := at_) (place := place) (rank := rank) (nounBits := nounBits) (verbBits := verbBits) (inner := inner) (table := table) (next := next) (powers := powers) (things := things) (holding := holding) (patterns := patterns) (seeded := seeded) (lanes := lanes) (sizes := sizes) (cells := cells) hT h1 h2 hP hB hq he he3 (by decide) (by decide) (by decide) (by decide), ?_⟩
  by_cases c0 : sort = 1 ∧ e - q = 4 ∧ t (q + 0) = 116 ∧ t (q + 0 + 1) = 104
  · rw [if_pos c0]
    refine cn (by decide) ⟨_, m_is (d := d) (q := q) (e := e) (n := 4) (f := 2) (a := 97) (b := 116) (t := t) (st := st) (draft := draft) (kept := kept) (isKept := isKept) (tape := tape) (taped := taped) (pos := pos) (begun := begun) (sort := sort) (fault := fault) (wrongAt := wrongAt) (rows := rows) (places := places) (aheads := aheads) (readings := readings) (isFound := isFound) (now := now) (at_ := at_) (place := place) (rank := rank) (nounBits := nounBits) (verbBits := verbBits) (inner := inner) (table := table) (next := next) (powers := powers) (things := things) (holding := holding) (patterns := patterns) (seeded := seeded) (lanes := lanes) (sizes := sizes) (cells := cells) hT h1 h2 hP hB hq he he3 (by decide) (by decide) (by decide) (by decide), ?_, rfl⟩
    by_cases c2 : sort = 1 ∧ e - q = 4 ∧ t (q + 2) = 97 ∧ t (q + 2 + 1) = 116
    · rw [if_pos c2, if_pos (by decide), if_pos ⟨c0.1, mt_0.mpr ⟨c0.2.1, c0.2.2.1, c0.2.2.2, c2.2.2.1, c2.2.2.2⟩⟩]
    · rw [if_neg c2, if_neg (by decide), if_neg (fun z => c2 ⟨z.1, (mt_0.mp z.2).1, (mt_0.mp z.2).2.2.2.1, (mt_0.mp z.2).2.2.2.2⟩)]
  · rw [if_neg c0]
    exact cy rfl ⟨by rw [if_neg (fun z => c0 ⟨z.1, (mt_0.mp z.2).1, (mt_0.mp z.2).2.1, (mt_0.mp z.2).2.2.1⟩)], rfl⟩
