/-! the reference's side: alike, entailed, most, small worlds -/
theorem bx_shr1 {x : Int64} {j : Nat} (hj : j < 64) : (x >>> ((nI j).toInt64 &&& 63)) &&& (1 : Int64) = if wd_bit x j then 1 else 0 := by
  rw [bx_c j hj]
  refine bx_ext fun i hi => ?_
  have h1 : wd_bit (1 : Int64) i = decide (i = 0) := by
    have : ∀ i, i < 64 → wd_bit (1 : Int64) i = decide (i = 0) := by decide +kernel
    exact this i hi
  have h2 : (x >>> Int64.ofNat j).toBitVec = x.toBitVec.sshiftRight j := by
    rw [Int64.toBitVec_shiftRight, BitVec.sshiftRight_eq']
    congr 1
    exact bx_sm j hj
  rw [bx_and, h1]
  by_cases h0 : i = 0
  · subst h0
    have h3 : wd_bit (x >>> Int64.ofNat j) 0 = wd_bit x j := by
      unfold wd_bit
      rw [h2, BitVec.getLsbD_sshiftRight]
      simp [hj]
    rw [h3]
    cases wd_bit x j
    · rfl
    · rfl
  · rw [decide_eq_false h0, Bool.and_false]
    cases wd_bit x j
    · exact (bx_0 i).symm
    · show false = wd_bit (1 : Int64) i
      rw [h1, decide_eq_false h0]
theorem ix65m (r i : Nat) : (65 : Int32) * nI r + nI i = nI (65 * r + i) := by
  show nI 65 * nI r + nI i = _
  rw [pk_mul, nI_add]
theorem m_holdsSmall {d r w : Nat} (hr : r < 24) (hw' : w < 4128) {H : Nat → Nat → Int64} {st draft kept isKept tape : Nat → Int32} {taped pos begun sort fault wrongAt : Int32} {rows places aheads : Nat → Int32} {readings isFound : Int32} {now at_ place rank : Nat → Int32} {nounBits verbBits inner table next : Nat → Int64} {powers : Nat → Int32} {things : Int32} {holding patterns : Nat → Int64} {seeded : Int32} {lanes sizes cells : Nat → Int32} (h1 : ∀ i, i < 65 → holding (65 * r + i) = H r i) : Go d 136 0 [some (.ref 0), some (.int (nI r)), some (.int (nI w)), none] [] (hM st draft kept isKept tape taped pos begun sort fault wrongAt rows places aheads readings isFound now at_ place rank nounBits verbBits inner table next powers things holding patterns seeded lanes sizes cells) (some (.int (if sb (H r) w then 1 else 0))) (hM st draft kept isKept tape taped pos begun sort fault wrongAt rows places aheads readings isFound now at_ place rank nounBits verbBits inner table next powers things holding patterns seeded lanes sizes cells) := by
  have fin : ∀ b : Bool, (if lg_cmp (if b = true then (1 : Int64) else 0) (1 : Int64) = 0 then (1 : Int32) else 0) = if b = true then 1 else 0 := by decide
  refine b_X9_holdsSmall_0 (pk_le 32 w (fun h => ?_) (fun h => ?_))
  · have e1 : nI w - (32 : Int32) = nI (w - 32) := pk_sub (a := w) (b := 32) h
    have e2 : nI (w - 32) / (64 : Int32) = nI ((w - 32) / 64) := pk_div (a := w - 32) (d := 64) (by omega) (by decide) (by decide)
    have e3 : nI (w - 32) - nI (w - 32) / (64 : Int32) * (64 : Int32) = nI ((w - 32) % 64) := pk_rem (a := w - 32) (d := 64) (by omega) (by decide) (by decide)
    rw [e1, e3, e2]
    refine ⟨65 * r + (1 + (w - 32) / 64), ?_, by omega, ?_, rfl⟩
    · show nI 65 * nI r + nI 1 + _ = _
      rw [pk_mul, nI_add, nI_add]
      congr 1; omega
    · rw [bx_shr1 (by omega), h1 _ (by omega), fin]
      unfold sb iw jw
      rw [if_neg (show ¬ w < 32 by omega), if_neg (show ¬ w < 32 by omega)]
  · refine ⟨65 * r + 0, ?_, by omega, ?_, rfl⟩
    · exact pk_mul 65 r
    · rw [bx_shr1 (by omega), h1 _ (by omega), fin]
      unfold sb iw jw
      rw [if_pos h, if_pos h]
theorem m_isAlike_l {d a b : Nat} (ha : a < 24) (hb : b < 24) {H : Nat → Nat → Int64} {st draft kept isKept tape : Nat → Int32} {taped pos begun sort fault wrongAt : Int32} {rows places aheads : Nat → Int32} {readings isFound : Int32} {now at_ place rank : Nat → Int32} {nounBits verbBits inner table next : Nat → Int64} {powers : Nat → Int32} {things : Int32} {holding patterns : Nat → Int64} {seeded : Int32} {lanes sizes cells : Nat → Int32} (h1 : ∀ i, i < 65 → holding (65 * a + i) = H a i) (h2 : ∀ i, i < 65 → holding (65 * b + i) = H b i) : ∀ (m i : Nat) (s : Bool), i + m = 65 → Go d 137 5 [some (.ref 0), some (.int (nI a)), some (.int (nI b)), some (.int (if s then 1 else 0)), some (.int (nI i))] [] (hM st draft kept isKept tape taped pos begun sort fault wrongAt rows places aheads readings isFound now at_ place rank nounBits verbBits inner table next powers things holding patterns seeded lanes sizes cells) (some (.int (if (s && al (fun i => decide (H a i = H b i)) m i) then 1 else 0))) (hM st draft kept isKept tape taped pos begun sort fault wrongAt rows places aheads readings isFound now at_ place rank nounBits verbBits inner table next powers things holding patterns seeded lanes sizes cells)
  | 0, i, s, hi => b_X9_isAlike_5 (pk_le 65 i (fun _ => ⟨by cases s <;> decide, by unfold al; rw [Bool.and_true], rfl⟩) (fun z => by omega))
  | m + 1, i, s, hi => by
    refine b_X9_isAlike_5 (pk_le 65 i (fun z => by omega) (fun _ => ?_))
    rw [nI_1]
    unfold al
    cases s with
    | false =>
      have := m_isAlike_l (d := d) ha hb (st := st) (draft := draft) (kept := kept) (isKept := isKept) (tape := tape) (taped := taped) (pos := pos) (begun := begun) (sort := sort) (fault := fault) (wrongAt := wrongAt) (rows := rows) (places := places) (aheads := aheads) (readings := readings) (isFound := isFound) (now := now) (at_ := at_) (place := place) (rank := rank) (nounBits := nounBits) (verbBits := verbBits) (inner := inner) (table := table) (next := next) (powers := powers) (things := things) (holding := holding) (patterns := patterns) (seeded := seeded) (lanes := lanes) (sizes := sizes) (cells := cells) h1 h2 m (i + 1) false (by omega)
      exact cy rfl this
    | true =>
      refine cn (by decide) ⟨65 * a + i, ix65m a i, by omega, 65 * b + i, ix65m b i, by omega, ?_⟩
      rw [h1 i (by omega), h2 i (by omega)]
      by_cases h : H a i = H b i
      · rw [decide_eq_true h, if_pos ((lg_cmp_eq _ _).mpr h), Bool.true_and]
        exact m_isAlike_l (d := d) ha hb h1 h2 m (i + 1) true (by omega)
      · rw [decide_eq_false h, if_neg (fun z => h ((lg_cmp_eq _ _).mp z)), Bool.false_and]
        exact m_isAlike_l (d := d) ha hb h1 h2 m (i + 1) false (by omega)
theorem m_isAlike {d a b : Nat} (ha : a < 24) (hb : b < 24) {H : Nat → Nat → Int64} {st draft kept isKept tape : Nat → Int32} {taped pos begun sort fault wrongAt : Int32} {rows places aheads : Nat → Int32} {readings isFound : Int32} {now at_ place rank : Nat → Int32} {nounBits verbBits inner table next : Nat → Int64} {powers : Nat → Int32} {things : Int32} {holding patterns : Nat → Int64} {seeded : Int32} {lanes sizes cells : Nat → Int32} (h1 : ∀ i, i < 65 → holding (65 * a + i) = H a i) (h2 : ∀ i, i < 65 → holding (65 * b + i) = H b i) : Go d 137 0 [some (.ref 0), some (.int (nI a)), some (.int (nI b)), none, none] [] (hM st draft kept isKept tape taped pos begun sort fault wrongAt rows places aheads readings isFound now at_ place rank nounBits verbBits inner table next powers things holding patterns seeded lanes sizes cells) (some (.int (if wA H a b then 1 else 0))) (hM st draft kept isKept tape taped pos begun sort fault wrongAt rows places aheads readings isFound now at_ place rank nounBits verbBits inner table next powers things holding patterns seeded lanes sizes cells) := b_X9_isAlike_0 (m_isAlike_l ha hb h1 h2 65 0 true rfl)
theorem m_doesEntail_l {d a b : Nat} (ha : a < 24) (hb : b < 24) {H : Nat → Nat → Int64} {st draft kept isKept tape : Nat → Int32} {taped pos begun sort fault wrongAt : Int32} {rows places aheads : Nat → Int32} {readings isFound : Int32} {now at_ place rank : Nat → Int32} {nounBits verbBits inner table next : Nat → Int64} {powers : Nat → Int32} {things : Int32} {holding patterns : Nat → Int64} {seeded : Int32} {lanes sizes cells : Nat → Int32} (h1 : ∀ i, i < 65 → holding (65 * a + i) = H a i) (h2 : ∀ i, i < 65 → holding (65 * b + i) = H b i) : ∀ (m i : Nat) (s : Bool), i + m = 65 → Go d 138 5 [some (.ref 0), some (.int (nI a)), some (.int (nI b)), some (.int (if s then 1 else 0)), some (.int (nI i))] [] (hM st draft kept isKept tape taped pos begun sort fault wrongAt rows places aheads readings isFound now at_ place rank nounBits verbBits inner table next powers things holding patterns seeded lanes sizes cells) (some (.int (if (s && al (fun i => decide (H a i &&& (H b i ^^^ (Int64.ofNat 18446744073709551615)) = 0)) m i) then 1 else 0))) (hM st draft kept isKept tape taped pos begun sort fault wrongAt rows places aheads readings isFound now at_ place rank nounBits verbBits inner table next powers things holding patterns seeded lanes sizes cells)
  | 0, i, s, hi => b_X9_doesEntail_5 (pk_le 65 i (fun _ => ⟨by cases s <;> decide, by unfold al; rw [Bool.and_true], rfl⟩) (fun z => by omega))
  | m + 1, i, s, hi => by
    refine b_X9_doesEntail_5 (pk_le 65 i (fun z => by omega) (fun _ => ?_))
    rw [nI_1]
    unfold al
    cases s with
    | false =>
      have := m_doesEntail_l (d := d) ha hb (st := st) (draft := draft) (kept := kept) (isKept := isKept) (tape := tape) (taped := taped) (pos := pos) (begun := begun) (sort := sort) (fault := fault) (wrongAt := wrongAt) (rows := rows) (places := places) (aheads := aheads) (readings := readings) (isFound := isFound) (now := now) (at_ := at_) (place := place) (rank := rank) (nounBits := nounBits) (verbBits := verbBits) (inner := inner) (table := table) (next := next) (powers := powers) (things := things) (holding := holding) (patterns := patterns) (seeded := seeded) (lanes := lanes) (sizes := sizes) (cells := cells) h1 h2 m (i + 1) false (by omega)
      exact cy rfl this
    | true =>
      refine cn (by decide) ⟨65 * a + i, ix65m a i, by omega, 65 * b + i, ix65m b i, by omega, ?_⟩
      rw [h1 i (by omega), h2 i (by omega)]
      by_cases h : H a i &&& (H b i ^^^ (Int64.ofNat 18446744073709551615)) = 0
      · rw [decide_eq_true h, if_pos ((lg_cmp_eq _ _).mpr h), Bool.true_and]
        exact m_doesEntail_l (d := d) ha hb h1 h2 m (i + 1) true (by omega)
      · rw [decide_eq_false h, if_neg (fun z => h ((lg_cmp_eq _ _).mp z)), Bool.false_and]
        exact m_doesEntail_l (d := d) ha hb h1 h2 m (i + 1) false (by omega)
theorem m_doesEntail {d a b : Nat} (ha : a < 24) (hb : b < 24) {H : Nat → Nat → Int64} {st draft kept isKept tape : Nat → Int32} {taped pos begun sort fault wrongAt : Int32} {rows places aheads : Nat → Int32} {readings isFound : Int32} {now at_ place rank : Nat → Int32} {nounBits verbBits inner table next : Nat → Int64} {powers : Nat → Int32} {things : Int32} {holding patterns : Nat → Int64} {seeded : Int32} {lanes sizes cells : Nat → Int32} (h1 : ∀ i, i < 65 → holding (65 * a + i) = H a i) (h2 : ∀ i, i < 65 → holding (65 * b + i) = H b i) : Go d 138 0 [some (.ref 0), some (.int (nI a)), some (.int (nI b)), none, none] [] (hM st draft kept isKept tape taped pos begun sort fault wrongAt rows places aheads readings isFound now at_ place rank nounBits verbBits inner table next powers things holding patterns seeded lanes sizes cells) (some (.int (if wE H a b then 1 else 0))) (hM st draft kept isKept tape taped pos begun sort fault wrongAt rows places aheads readings isFound now at_ place rank nounBits verbBits inner table next powers things holding patterns seeded lanes sizes cells) := b_X9_doesEntail_0 (m_doesEntail_l ha hb h1 h2 65 0 true rfl)
theorem m_la_l {d r L : Nat} (hL : L ≤ 24) (hr : r < L) {H : Nat → Nat → Int64} {st draft kept isKept tape : Nat → Int32} {taped pos begun sort fault wrongAt : Int32} {rows places aheads : Nat → Int32} {readings isFound : Int32} {now at_ place rank : Nat → Int32} {nounBits verbBits inner table next : Nat → Int64} {powers : Nat → Int32} {things : Int32} {holding patterns : Nat → Int64} {seeded : Int32} {lanes sizes cells : Nat → Int32} (hh : ∀ q, q < L → ∀ i, i < 65 → holding (65 * q + i) = H q i) : ∀ (m q : Nat), q + m = r → Go (d + 1) 139 2 [some (.ref 0), some (.int (nI r)), some (.int (nI q))] [] (hM st draft kept isKept tape taped pos begun sort fault wrongAt rows places aheads readings isFound now at_ place rank nounBits verbBits inner table next powers things holding patterns seeded lanes sizes cells) (some (.int (nI (match fr (fun q => wA H q r) m q with | none => r | some q => q)))) (hM st draft kept isKept tape taped pos begun sort fault wrongAt rows places aheads readings isFound now at_ place rank nounBits verbBits inner table next powers things holding patterns seeded lanes sizes cells)
  | 0, q, hq => by
    have : q = r := by omega
    subst this
    have g := m_isAlike (d := d) (a := q) (b := q) (by omega) (by omega) (st := st) (draft := draft) (kept := kept) (isKept := isKept) (tape := tape) (taped := taped) (pos := pos) (begun := begun) (sort := sort) (fault := fault) (wrongAt := wrongAt) (rows := rows) (places := places) (aheads := aheads) (readings := readings) (isFound := isFound) (now := now) (at_ := at_) (place := place) (rank := rank) (nounBits := nounBits) (verbBits := verbBits) (inner := inner) (table := table) (next := next) (powers := powers) (things := things) (holding := holding) (patterns := patterns) (seeded := seeded) (lanes := lanes) (sizes := sizes) (cells := cells) (hh q hr) (hh q hr)
    rw [wA_self] at g
    exact b_X9_leastAlike_2 ⟨_, g, nn (by decide) ⟨rfl, rfl⟩⟩
  | m + 1, q, hq => by
    have g := m_isAlike (d := d) (a := q) (b := r) (by omega) (by omega) (st := st) (draft := draft) (kept := kept) (isKept := isKept) (tape := tape) (taped := taped) (pos := pos) (begun := begun) (sort := sort) (fault := fault) (wrongAt := wrongAt) (rows := rows) (places := places) (aheads := aheads) (readings := readings) (isFound := isFound) (now := now) (at_ := at_) (place := place) (rank := rank) (nounBits := nounBits) (verbBits := verbBits) (inner := inner) (table := table) (next := next) (powers := powers) (things := things) (holding := holding) (patterns := patterns) (seeded := seeded) (lanes := lanes) (sizes := sizes) (cells := cells) (hh q (by omega)) (hh r hr)
    unfold fr
    by_cases h : wA H q r = true
    · rw [if_pos h] at g
      rw [if_pos h]
      exact b_X9_leastAlike_2 ⟨_, g, nn (by decide) ⟨rfl, rfl⟩⟩
    · rw [if_neg h] at g
      rw [if_neg h]
      exact b_X9_leastAlike_2 ⟨_, g, ny rfl (by rw [nI_1]; exact m_la_l (d := d) hL hr hh m (q + 1) (by omega))⟩
theorem m_leastAlike {d r L : Nat} (hL : L ≤ 24) (hr : r < L) {H : Nat → Nat → Int64} {st draft kept isKept tape : Nat → Int32} {taped pos begun sort fault wrongAt : Int32} {rows places aheads : Nat → Int32} {readings isFound : Int32} {now at_ place rank : Nat → Int32} {nounBits verbBits inner table next : Nat → Int64} {powers : Nat → Int32} {things : Int32} {holding patterns : Nat → Int64} {seeded : Int32} {lanes sizes cells : Nat → Int32} (hh : ∀ q, q < L → ∀ i, i < 65 → holding (65 * q + i) = H q i) : Go (d + 1) 139 0 [some (.ref 0), some (.int (nI r)), none] [] (hM st draft kept isKept tape taped pos begun sort fault wrongAt rows places aheads readings isFound now at_ place rank nounBits verbBits inner table next powers things holding patterns seeded lanes sizes cells) (some (.int (nI (la H r)))) (hM st draft kept isKept tape taped pos begun sort fault wrongAt rows places aheads readings isFound now at_ place rank nounBits verbBits inner table next powers things holding patterns seeded lanes sizes cells) := b_X9_leastAlike_0 (m_la_l hL hr hh r 0 (by omega))
theorem la_le (H : Nat → Nat → Int64) (r : Nat) : la H r ≤ r := by
  unfold la
  split
  · omega
  · next q e => have := (fr_some e).2.1; omega
theorem m_unlike {d L : Nat} (hL : L ≤ 24) {H : Nat → Nat → Int64} {st draft kept isKept tape : Nat → Int32} {taped pos begun sort fault wrongAt : Int32} {rows places aheads : Nat → Int32} {readings isFound : Int32} {now at_ place rank : Nat → Int32} {nounBits verbBits inner table next : Nat → Int64} {powers : Nat → Int32} {things : Int32} {holding patterns : Nat → Int64} {seeded : Int32} {lanes sizes cells : Nat → Int32} (hR : readings = nI L) (hh : ∀ q, q < L → ∀ i, i < 65 → holding (65 * q + i) = H q i) : Go (d + 2) 142 0 [some (.ref 0), none, none] [] (hM st draft kept isKept tape taped pos begun sort fault wrongAt rows places aheads readings isFound now at_ place rank nounBits verbBits inner table next powers things holding patterns seeded lanes sizes cells) (some (.int (nI (ct (fun r => decide (la H r = r)) L)))) (hM st draft kept isKept tape taped pos begun sort fault wrongAt rows places aheads readings isFound now at_ place rank nounBits verbBits inner table next powers things holding patterns seeded lanes sizes cells) := by
  have key : ∀ (m r : Nat), r + m = L → Go (d + 2) 142 4 [some (.ref 0), some (.int (nI (ct (fun r => decide (la H r = r)) r))), some (.int (nI r))] [] (hM st draft kept isKept tape taped pos begun sort fault wrongAt rows places aheads readings isFound now at_ place rank nounBits verbBits inner table next powers things holding patterns seeded lanes sizes cells) (some (.int (nI (ct (fun r => decide (la H r = r)) L)))) (hM st draft kept isKept tape taped pos begun sort fault wrongAt rows places aheads readings isFound now at_ place rank nounBits verbBits inner table next powers things holding patterns seeded lanes sizes cells) := by
    intro m
    induction m with
    | zero =>
      intro r hr
      have : r = L := by omega
      subst this
      exact b_X9_unlike_4 (pk_le r r (fun _ => ⟨rfl, rfl⟩) (fun z => by omega) hR)
    | succ m ih =>
      intro r hr
      have g := ih (r + 1) (by omega)
      have e2 : ct (fun r => decide (la H r = r)) (r + 1) = ct (fun r => decide (la H r = r)) r + (if decide (la H r = r) then 1 else 0) := rfl
      have hla := la_le H r
      refine b_X9_unlike_4 (pk_le L r (fun z => by omega) (fun _ => ⟨_, m_leastAlike hL (by omega) hh, ?_⟩) hR)
      rw [nI_1]
      by_cases h : la H r = r
      · rw [e2, decide_eq_true h] at g
        rw [if_pos (by rw [h]), nI_1]
        exact g
      · rw [e2, decide_eq_false h] at g
        rw [if_neg (fun z => h ((nI_eq (by omega) (by omega)).mp z))]
        have e0 : nI (ct (fun r => decide (la H r = r)) r) + (0 : Int32) = nI (ct (fun r => decide (la H r = r)) r + 0) := nI_add _ 0
        rw [e0]
        exact g
  exact b_X9_unlike_0 (key L 0 (by omega))
theorem m_most_31 {d L r : Nat} (hL : L ≤ 24) (hr : r < L) (z : Bool) {H : Nat → Nat → Int64} {st draft kept isKept tape : Nat → Int32} {taped pos begun sort fault wrongAt : Int32} {rows places aheads : Nat → Int32} {readings isFound : Int32} {now at_ place rank : Nat → Int32} {nounBits verbBits inner table next : Nat → Int64} {powers : Nat → Int32} {things : Int32} {holding patterns : Nat → Int64} {seeded : Int32} {lanes sizes cells : Nat → Int32} (hR : readings = nI L) (hh : ∀ q, q < L → ∀ i, i < 65 → holding (65 * q + i) = H q i) {v : Option Value} {h' : aH} : ∀ (m q : Nat) (s : Bool), q + m = L → ((s && al (fun q => if z then wE H r q else wE H q r) m q) = true → some (.int (nI r)) = v ∧ hM st draft kept isKept tape taped pos begun sort fault wrongAt rows places aheads readings isFound now at_ place rank nounBits verbBits inner table next powers things holding patterns seeded lanes sizes cells = h') → ((s && al (fun q => if z then wE H r q else wE H q r) m q) = false → Go (d + 1) 161 18 [some (.ref 0), some (.int (if z then 1 else 0)), some (.int (nI (r + 1))), none, none] [] (hM st draft kept isKept tape taped pos begun sort fault wrongAt rows places aheads readings isFound now at_ place rank nounBits verbBits inner table next powers things holding patterns seeded lanes sizes cells) v h') → Go (d + 1) 161 31 [some (.ref 0), some (.int (if z then 1 else 0)), some (.int (nI r)), some (.int (if s then 1 else 0)), some (.int (nI q))] [] (hM st draft kept isKept tape taped pos begun sort fault wrongAt rows places aheads readings isFound now at_ place rank nounBits verbBits inner table next powers things holding patterns seeded lanes sizes cells) v h'
  | 0, q, s, hq, k1, k2 => by
    refine b_X9_most_31 (pk_le L q (fun _ => ?_) (fun z => by omega) hR)
    rw [nI_1]
    cases s with
    | true => exact cn (by decide) (k1 rfl)
    | false => exact cy rfl (k2 rfl)
  | m + 1, q, s, hq, k1, k2 => by
    refine b_X9_most_31 (pk_le L q (fun z => by omega) (fun _ => ?_) hR)
    rw [nI_1]
    unfold al at k1 k2
    cases s with
    | false => exact cy rfl (m_most_31 (d := d) hL hr z hR hh m (q + 1) false (by omega) (fun y => by cases y) (fun _ => k2 rfl))
    | true =>
      refine cn (by decide) ?_
      rw [Bool.true_and] at k1 k2
      cases z with
      | true =>
        have g := m_doesEntail (d := d) (a := r) (b := q) (by omega) (by omega) (st := st) (draft := draft) (kept := kept) (isKept := isKept) (tape := tape) (taped := taped) (pos := pos) (begun := begun) (sort := sort) (fault := fault) (wrongAt := wrongAt) (rows := rows) (places := places) (aheads := aheads) (readings := readings) (isFound := isFound) (now := now) (at_ := at_) (place := place) (rank := rank) (nounBits := nounBits) (verbBits := verbBits) (inner := inner) (table := table) (next := next) (powers := powers) (things := things) (holding := holding) (patterns := patterns) (seeded := seeded) (lanes := lanes) (sizes := sizes) (cells := cells) (hh r hr) (hh q (by omega))
        refine nn (by decide) ⟨_, g, ?_⟩
        by_cases h : wE H r q = true
        · rw [show (if (true : Bool) = true then wE H r q else wE H q r) = true from h, Bool.true_and] at k1 k2
          rw [if_pos h, if_pos (by decide)]
          exact m_most_31 (d := d) hL hr true hR hh m (q + 1) true (by omega) k1 k2
        · rw [show (if (true : Bool) = true then wE H r q else wE H q r) = false from Bool.eq_false_iff.mpr h, Bool.false_and] at k2
          rw [if_neg h, if_neg (show ¬ ¬ (0 : Int32) = 0 by decide)]
          exact m_most_31 (d := d) hL hr true hR hh m (q + 1) false (by omega) (fun y => by cases y) (fun _ => k2 rfl)
      | false =>
        have g := m_doesEntail (d := d) (a := q) (b := r) (by omega) (by omega) (st := st) (draft := draft) (kept := kept) (isKept := isKept) (tape := tape) (taped := taped) (pos := pos) (begun := begun) (sort := sort) (fault := fault) (wrongAt := wrongAt) (rows := rows) (places := places) (aheads := aheads) (readings := readings) (isFound := isFound) (now := now) (at_ := at_) (place := place) (rank := rank) (nounBits := nounBits) (verbBits := verbBits) (inner := inner) (table := table) (next := next) (powers := powers) (things := things) (holding := holding) (patterns := patterns) (seeded := seeded) (lanes := lanes) (sizes := sizes) (cells := cells) (hh q (by omega)) (hh r hr)
        refine ny rfl ⟨_, g, ?_⟩
        by_cases h : wE H q r = true
        · rw [show (if (false : Bool) = true then wE H r q else wE H q r) = true from h, Bool.true_and] at k1 k2
          rw [if_pos h]
          exact cn (by decide) (m_most_31 (d := d) hL hr false hR hh m (q + 1) true (by omega) k1 k2)
        · rw [show (if (false : Bool) = true then wE H r q else wE H q r) = false from Bool.eq_false_iff.mpr h, Bool.false_and] at k2
          rw [if_neg h]
          exact cy rfl (m_most_31 (d := d) hL hr false hR hh m (q + 1) false (by omega) (fun y => by cases y) (fun _ => k2 rfl))
theorem m_most_l {d L : Nat} (hL : L ≤ 24) (z : Bool) {H : Nat → Nat → Int64} {st draft kept isKept tape : Nat → Int32} {taped pos begun sort fault wrongAt : Int32} {rows places aheads : Nat → Int32} {readings isFound : Int32} {now at_ place rank : Nat → Int32} {nounBits verbBits inner table next : Nat → Int64} {powers : Nat → Int32} {things : Int32} {holding patterns : Nat → Int64} {seeded : Int32} {lanes sizes cells : Nat → Int32} (hR : readings = nI L) (hh : ∀ q, q < L → ∀ i, i < 65 → holding (65 * q + i) = H q i) : ∀ (m r : Nat), r + m = L → Go (d + 1) 161 18 [some (.ref 0), some (.int (if z then 1 else 0)), some (.int (nI r)), none, none] [] (hM st draft kept isKept tape taped pos begun sort fault wrongAt rows places aheads readings isFound now at_ place rank nounBits verbBits inner table next powers things holding patterns seeded lanes sizes cells) (some (.int (match fr (ext H L z) m r with | none => -4 | some r => nI r))) (hM st draft kept isKept tape taped pos begun sort fault wrongAt rows places aheads readings isFound now at_ place rank nounBits verbBits inner table next powers things holding patterns seeded lanes sizes cells)
  | 0, r, hr => b_X9_most_18 (pk_le L r (fun _ => ⟨rfl, rfl⟩) (fun z => by omega) hR)
  | m + 1, r, hr => by
    refine b_X9_most_18 (pk_le L r (fun z => by omega) (fun _ => ?_) hR)
    refine m_most_31 (d := d) hL (show r < L by omega) z hR hh L 0 true (by omega) (fun q => ?_) (fun q => ?_)
    · have q : ext H L z r = true := q
      unfold fr
      rw [if_pos q]
      exact ⟨rfl, rfl⟩
    · have q : ext H L z r = false := q
      unfold fr
      rw [if_neg (show ¬ ext H L z r = true by rw [q]; decide)]
      exact m_most_l (d := d) hL z hR hh m (r + 1) (by omega)
theorem m_many {d r : Nat} (hr : r < 24) {H : Nat → Nat → Int64} {st draft kept isKept tape : Nat → Int32} {taped pos begun sort fault wrongAt : Int32} {rows places aheads : Nat → Int32} {readings isFound : Int32} {now at_ place rank : Nat → Int32} {nounBits verbBits inner table next : Nat → Int64} {powers : Nat → Int32} {things : Int32} {holding patterns : Nat → Int64} {seeded : Int32} {lanes sizes cells : Nat → Int32} (h1 : ∀ i, i < 65 → holding (65 * r + i) = H r i) : Go (d + 1) 158 14 [some (.ref 0), some (.int (nI r)), some (.int (0 : Int32)), some (.int (0 : Int32))] [] (hM st draft kept isKept tape taped pos begun sort fault wrongAt rows places aheads readings isFound now at_ place rank nounBits verbBits inner table next powers things holding patterns seeded lanes sizes cells) (some (.int (nI (ct (fun w => sb (H r) w) 4128)))) (hM st draft kept isKept tape taped pos begun sort fault wrongAt rows places aheads readings isFound now at_ place rank nounBits verbBits inner table next powers things holding patterns seeded lanes sizes cells) := by
  have key : ∀ (m w : Nat), w + m = 4128 → Go (d + 1) 158 14 [some (.ref 0), some (.int (nI r)), some (.int (nI (ct (fun w => sb (H r) w) w))), some (.int (nI w))] [] (hM st draft kept isKept tape taped pos begun sort fault wrongAt rows places aheads readings isFound now at_ place rank nounBits verbBits inner table next powers things holding patterns seeded lanes sizes cells) (some (.int (nI (ct (fun w => sb (H r) w) 4128)))) (hM st draft kept isKept tape taped pos begun sort fault wrongAt rows places aheads readings isFound now at_ place rank nounBits verbBits inner table next powers things holding patterns seeded lanes sizes cells) := by
    intro m
    induction m with
    | zero =>
      intro w hw
      have : w = 4128 := by omega
      subst this
      exact b_X9_many_14 (pk_le 4128 4128 (fun _ => ⟨rfl, rfl⟩) (fun z => by omega))
    | succ m ih =>
      intro w hw
      have g := ih (w + 1) (by omega)
      have e2 : ct (fun w => sb (H r) w) (w + 1) = ct (fun w => sb (H r) w) w + (if sb (H r) w then 1 else 0) := rfl
      refine b_X9_many_14 (pk_le 4128 w (fun z => by omega) (fun _ => ⟨_, m_holdsSmall hr (by omega) h1, ?_⟩))
      rw [nI_1]
      rw [e2] at g
      by_cases h : sb (H r) w = true
      · rw [if_pos h] at g
        rw [if_pos h, if_pos (by decide), nI_1]
        exact g
      · rw [if_neg h] at g
        rw [if_neg h, if_neg (by decide)]
        have e0 : nI (ct (fun w => sb (H r) w) w) + (0 : Int32) = nI (ct (fun w => sb (H r) w) w + 0) := nI_add _ 0
        rw [e0]
        exact g
  exact key 4128 0 rfl
