/-! meaning: the reference's side: a place by tables -/
theorem m_fp2_15 {d n o k h : Nat} {r : Int32} {V : Int32} {Q U W : Nat → Int32} {F : Nat → Int64} (hk1 : 1 ≤ k) (hk : k ≤ 4) (hS : sn_ok n o V Q U W) (hh : h = 4 ∨ h < n) : ∀ (m a : Nat) {st draft kept isKept tape : Nat → Int32} {taped pos begun sort fault wrongAt : Int32} {rows places aheads : Nat → Int32} {readings isFound : Int32} {now at_ place rank : Nat → Int32} {nounBits verbBits inner table next : Nat → Int64} {powers : Nat → Int32} {things : Int32} {holding patterns : Nat → Int64} {seeded : Int32} {lanes sizes cells : Nat → Int32}, sn_M st 0 n o V Q U W → nb_M k F nounBits verbBits → pw_M n k powers things → a + m = k ^ n → (∀ b, b < a → table b = ev_en n o k V U W F h (dg k b)) → ∃ table' : Nat → Int64, (∀ b, b < k ^ n → table' b = ev_en n o k V U W F h (dg k b)) ∧ ∀ (v : Option Value) (h' : aH), Go (d + 2) 128 51 [some (.ref 0), some (.int r), some (.int (cv h)), some (.int (nI (k ^ n))), some (.int (nI n - 1)), none, none] [] (hM st draft kept isKept tape taped pos begun sort fault wrongAt rows places aheads readings isFound now at_ place rank nounBits verbBits inner table' next powers things holding patterns seeded lanes sizes cells) v h' → Go (d + 2) 128 15 [some (.ref 0), some (.int r), some (.int (cv h)), some (.int (nI (k ^ n))), some (.int (nI a)), none, none] [] (hM st draft kept isKept tape taped pos begun sort fault wrongAt rows places aheads readings isFound now at_ place rank nounBits verbBits inner table next powers things holding patterns seeded lanes sizes cells) v h'
  | 0, a, st, draft, kept, isKept, tape, taped, pos, begun, sort, fault, wrongAt, rows, places, aheads, readings, isFound, now, at_, place, rank, nounBits, verbBits, inner, table, next, powers, things, holding, patterns, seeded, lanes, sizes, cells, mM, B, P, hi, hT => by
    have hkn := kpow hk1 hk hS.2.1
    refine ⟨table, fun b hb => hT b (by omega), fun v h' g => b_X9_findsPlace_15 (pk_le (k ^ n) a (fun _ => ?_) (fun z => by omega))⟩
    rw [mM.1]
    exact g
  | m + 1, a, st, draft, kept, isKept, tape, taped, pos, begun, sort, fault, wrongAt, rows, places, aheads, readings, isFound, now, at_, place, rank, nounBits, verbBits, inner, table, next, powers, things, holding, patterns, seeded, lanes, sizes, cells, mM, B, P, hi, hT => by
    have hkn := kpow hk1 hk hS.2.1
    obtain ⟨table', p1, p2⟩ := m_fp2_15 (d := d) (r := r) (F := F) hk1 hk hS hh m (a + 1) (st := st) (draft := draft) (kept := kept) (isKept := isKept) (tape := tape) (taped := taped) (pos := pos) (begun := begun) (sort := sort) (fault := fault) (wrongAt := wrongAt) (rows := rows) (places := places) (aheads := aheads) (readings := readings) (isFound := isFound) (now := now) (at_ := at_) (place := place) (rank := rank) (nounBits := nounBits) (verbBits := verbBits) (inner := inner) (table := (vp_updL table a (ev_en n o k V U W F h (dg k a)))) (next := next) (powers := powers) (things := things) (holding := holding) (patterns := patterns) (seeded := seeded) (lanes := lanes) (sizes := sizes) (cells := cells) mM B P (by omega) (fun b hb => by
      by_cases e : b = a
      · subst e; rw [pk_uLs]
      · rw [pk_uLn e]; exact hT b (by omega))
    exact ⟨table', p1, fun v h' g => b_X9_findsPlace_15 (pk_le (k ^ n) a (fun z => by omega) (fun _ => ⟨_, m_atEnd hk1 hk hS mM B P hh (by omega), a, rfl, by omega, by rw [nI_1]; exact p2 v h' g⟩))⟩
theorem m_fp2_104 {d n o k y : Nat} {x1 x2 x4 : Int32} {V : Int32} {Q U W : Nat → Int32} (hk1 : 1 ≤ k) (hk : k ≤ 4) (hS : sn_ok n o V Q U W) (hy : y < n) : ∀ (m a : Nat) {st draft kept isKept tape : Nat → Int32} {taped pos begun sort fault wrongAt : Int32} {rows places aheads : Nat → Int32} {readings isFound : Int32} {now at_ place rank : Nat → Int32} {nounBits verbBits inner table next : Nat → Int64} {powers : Nat → Int32} {things : Int32} {holding patterns : Nat → Int64} {seeded : Int32} {lanes sizes cells : Nat → Int32}, sn_M st 0 n o V Q U W → pw_M n k powers things → a + m = k ^ n → (∀ b, b < a → next b = qt (Q y) (qt_st (fun t => inner (256 * y + (b - dg k b y * k ^ y + t * k ^ y))) (fun t => table (b - dg k b y * k ^ y + t * k ^ y)) k)) → ∃ next' : Nat → Int64, (∀ b, b < k ^ n → next' b = qt (Q y) (qt_st (fun t => inner (256 * y + (b - dg k b y * k ^ y + t * k ^ y))) (fun t => table (b - dg k b y * k ^ y + t * k ^ y)) k)) ∧ ∀ (v : Option Value) (h' : aH), Go (d + 2) 128 134 [some (.ref 0), some (.int x1), some (.int x2), some (.int (nI (k ^ n))), some (.int x4), some (.int (nI y)), some (.int (0 : Int32))] [] (hM st draft kept isKept tape taped pos begun sort fault wrongAt rows places aheads readings isFound now at_ place rank nounBits verbBits inner table next' powers things holding patterns seeded lanes sizes cells) v h' → Go (d + 2) 128 104 [some (.ref 0), some (.int x1), some (.int x2), some (.int (nI (k ^ n))), some (.int x4), some (.int (nI y)), some (.int (nI a))] [] (hM st draft kept isKept tape taped pos begun sort fault wrongAt rows places aheads readings isFound now at_ place rank nounBits verbBits inner table next powers things holding patterns seeded lanes sizes cells) v h'
  | 0, a, st, draft, kept, isKept, tape, taped, pos, begun, sort, fault, wrongAt, rows, places, aheads, readings, isFound, now, at_, place, rank, nounBits, verbBits, inner, table, next, powers, things, holding, patterns, seeded, lanes, sizes, cells, mM, P, hi, hT => by
    have hkn := kpow hk1 hk hS.2.1
    exact ⟨next, fun b hb => hT b (by omega), fun v h' g => b_X9_findsPlace_104 (pk_le (k ^ n) a (fun _ => g) (fun z => by omega))⟩
  | m + 1, a, st, draft, kept, isKept, tape, taped, pos, begun, sort, fault, wrongAt, rows, places, aheads, readings, isFound, now, at_, place, rank, nounBits, verbBits, inner, table, next, powers, things, holding, patterns, seeded, lanes, sizes, cells, mM, P, hi, hT => by
    have hkn := kpow hk1 hk hS.2.1
    obtain ⟨next', p1, p2⟩ := m_fp2_104 (d := d) (x1 := x1) (x2 := x2) (x4 := x4) hk1 hk hS hy m (a + 1) (st := st) (draft := draft) (kept := kept) (isKept := isKept) (tape := tape) (taped := taped) (pos := pos) (begun := begun) (sort := sort) (fault := fault) (wrongAt := wrongAt) (rows := rows) (places := places) (aheads := aheads) (readings := readings) (isFound := isFound) (now := now) (at_ := at_) (place := place) (rank := rank) (nounBits := nounBits) (verbBits := verbBits) (inner := inner) (table := table) (next := (vp_updL next a (qt (Q y) (qt_st (fun t => inner (256 * y + (a - dg k a y * k ^ y + t * k ^ y))) (fun t => table (a - dg k a y * k ^ y + t * k ^ y)) k)))) (powers := powers) (things := things) (holding := holding) (patterns := patterns) (seeded := seeded) (lanes := lanes) (sizes := sizes) (cells := cells) mM P (by omega) (fun b hb => by
      by_cases e : b = a
      · subst e; rw [pk_uLs]
      · rw [pk_uLn e]; exact hT b (by omega))
    exact ⟨next', p1, fun v h' g => b_X9_findsPlace_104 (pk_le (k ^ n) a (fun z => by omega) (fun _ => ⟨_, m_quantified hk1 hk hS mM P hy (by omega), a, rfl, by omega, by rw [nI_1]; exact p2 v h' g⟩))⟩
theorem m_fp2_134 {d K y : Nat} {x1 x2 x4 : Int32} (hK : K ≤ 256) (hy : y < 4) : ∀ (m a : Nat) {st draft kept isKept tape : Nat → Int32} {taped pos begun sort fault wrongAt : Int32} {rows places aheads : Nat → Int32} {readings isFound : Int32} {now at_ place rank : Nat → Int32} {nounBits verbBits inner table next : Nat → Int64} {powers : Nat → Int32} {things : Int32} {holding patterns : Nat → Int64} {seeded : Int32} {lanes sizes cells : Nat → Int32}, a + m = K → (∀ b, b < a → table b = next b) → ∃ table' : Nat → Int64, (∀ b, b < K → table' b = next b) ∧ ∀ (v : Option Value) (h' : aH), Go (d + 2) 128 59 [some (.ref 0), some (.int x1), some (.int x2), some (.int (nI K)), some (.int x4), some (.int (nI (y + 1))), none] [] (hM st draft kept isKept tape taped pos begun sort fault wrongAt rows places aheads readings isFound now at_ place rank nounBits verbBits inner table' next powers things holding patterns seeded lanes sizes cells) v h' → Go (d + 2) 128 134 [some (.ref 0), some (.int x1), some (.int x2), some (.int (nI K)), some (.int x4), some (.int (nI y)), some (.int (nI a))] [] (hM st draft kept isKept tape taped pos begun sort fault wrongAt rows places aheads readings isFound now at_ place rank nounBits verbBits inner table next powers things holding patterns seeded lanes sizes cells) v h'
  | 0, a, st, draft, kept, isKept, tape, taped, pos, begun, sort, fault, wrongAt, rows, places, aheads, readings, isFound, now, at_, place, rank, nounBits, verbBits, inner, table, next, powers, things, holding, patterns, seeded, lanes, sizes, cells, hi, hT => ⟨table, fun b hb => hT b (by omega), fun v h' g => b_X9_findsPlace_134 (pk_le K a (fun _ => by rw [nI_1]; exact g) (fun z => by omega))⟩
  | m + 1, a, st, draft, kept, isKept, tape, taped, pos, begun, sort, fault, wrongAt, rows, places, aheads, readings, isFound, now, at_, place, rank, nounBits, verbBits, inner, table, next, powers, things, holding, patterns, seeded, lanes, sizes, cells, hi, hT => by
    obtain ⟨table', p1, p2⟩ := m_fp2_134 (d := d) (x1 := x1) (x2 := x2) (x4 := x4) hK hy m (a + 1) (st := st) (draft := draft) (kept := kept) (isKept := isKept) (tape := tape) (taped := taped) (pos := pos) (begun := begun) (sort := sort) (fault := fault) (wrongAt := wrongAt) (rows := rows) (places := places) (aheads := aheads) (readings := readings) (isFound := isFound) (now := now) (at_ := at_) (place := place) (rank := rank) (nounBits := nounBits) (verbBits := verbBits) (inner := inner) (table := (vp_updL table a (next a))) (next := next) (powers := powers) (things := things) (holding := holding) (patterns := patterns) (seeded := seeded) (lanes := lanes) (sizes := sizes) (cells := cells) (by omega) (fun b hb => by
      by_cases e : b = a
      · subst e; rw [pk_uLs]
      · rw [pk_uLn e]; exact hT b (by omega))
    exact ⟨table', p1, fun v h' g => b_X9_findsPlace_134 (pk_le K a (fun z => by omega) (fun _ => ⟨a, rfl, by omega, a, rfl, by omega, by rw [nI_1]; exact p2 v h' g⟩))⟩
theorem ev_step {n o k h left y a : Nat} {V : Int32} {Q U W : Nat → Int32} {F inner table : Nat → Int64} {l : List Nat} (hk1 : 1 ≤ k) (hk : k ≤ 4) (hS : sn_ok n o V Q U W) (hl : l ∈ rd_perms n) (hh : h < 5) (hf : left < 5) (e : rd_kd n o l h left = some y) (ha : a < k ^ n) (hI : ∀ b, b < k ^ n → inner (256 * y + b) = ev k Q (rd_kd n o l) (ev_en n o k V U W F) 4 y 0 (dg k b)) (hT : ∀ b, b < k ^ n → table b = ev k Q (rd_kd n o l) (ev_en n o k V U W F) 4 h (left + 1) (dg k b)) : qt (Q y) (qt_st (fun t => inner (256 * y + (a - dg k a y * k ^ y + t * k ^ y))) (fun t => table (a - dg k a y * k ^ y + t * k ^ y)) k) = ev k Q (rd_kd n o l) (ev_en n o k V U W F) 4 h left (dg k a) := by
  have hn4 := hS.2.1
  have hy := (rd_kd_some e).1
  have fit := rd_fit_ok n (by omega) o hS.2.2.2.1 hS.2.2.1 l hl h hh left hf
  rw [e] at fit
  simp only [Bool.and_eq_true] at fit
  have hd : dg k a y = a / k ^ y % k := by unfold dg; rw [if_pos (by omega)]
  obtain ⟨l1, l2⟩ := dg_lt1 (show k < 5 by omega) hk1 (show n < 5 by omega) ha hy
  have ha4 : a < k ^ 4 := Nat.lt_of_lt_of_le ha (Nat.pow_le_pow_right (by omega) hn4)
  rw [ev, e]
  simp only
  congr 1
  refine qt_congr k (fun t ht => ?_)
  have hlt : a - dg k a y * k ^ y + t * k ^ y < k ^ n := by rw [hd]; exact l2 t ht
  have hup : dg k (a - dg k a y * k ^ y + t * k ^ y) = up (dg k a) y t := by rw [hd]; exact dg_up hk1 hk ha4 (by omega) ht
  rw [hI _ hlt, hT _ hlt, hup]
  exact ⟨ev_fit 3 y 0 _ fit.1, ev_fit 3 h (left + 1) _ fit.2⟩
/-- whether the phrase of that rank has come -/
def mt_y (c : Option Nat) (y : Nat) : Bool := match c with
  | none => false
  | some x => decide (x < y)
theorem m_fp2_59 {d n o k h r left : Nat} {V : Int32} {Q U W : Nat → Int32} {F : Nat → Int64} {l : List Nat} (hk1 : 1 ≤ k) (hk : k ≤ 4) (hS : sn_ok n o V Q U W) (hl : l ∈ rd_perms n) (hh : h = 4 ∨ h < n) (hr : r < 24) (hf : left < n) : ∀ (m y : Nat) {st draft kept isKept tape : Nat → Int32} {taped pos begun sort fault wrongAt : Int32} {rows places aheads : Nat → Int32} {readings isFound : Int32} {now at_ place rank : Nat → Int32} {nounBits verbBits inner table next : Nat → Int64} {powers : Nat → Int32} {things : Int32} {holding patterns : Nat → Int64} {seeded : Int32} {lanes sizes cells : Nat → Int32}, sn_M st 0 n o V Q U W → pw_M n k powers things → (∀ x, x < n → places (4 * r + x) = cv (rd_pl n o l x) ∧ aheads (4 * r + x) = nI (rd_rk n o l x)) → (∀ x, x < n → rd_pl n o l x = h → ∀ b, b < k ^ n → inner (256 * x + b) = ev k Q (rd_kd n o l) (ev_en n o k V U W F) 4 x 0 (dg k b)) → y + m = n → (∀ b, b < k ^ n → table b = ev k Q (rd_kd n o l) (ev_en n o k V U W F) 4 h (if mt_y (rd_kd n o l h left) y then left else left + 1) (dg k b)) → ∃ table' next' : Nat → Int64, (∀ b, b < k ^ n → table' b = ev k Q (rd_kd n o l) (ev_en n o k V U W F) 4 h left (dg k b)) ∧ ∀ (v : Option Value) (h' : aH), Go (d + 2) 128 51 [some (.ref 0), some (.int (nI r)), some (.int (cv h)), some (.int (nI (k ^ n))), some (.int (nI left - 1)), none, none] [] (hM st draft kept isKept tape taped pos begun sort fault wrongAt rows places aheads readings isFound now at_ place rank nounBits verbBits inner table' next' powers things holding patterns seeded lanes sizes cells) v h' → Go (d + 2) 128 59 [some (.ref 0), some (.int (nI r)), some (.int (cv h)), some (.int (nI (k ^ n))), some (.int (nI left)), some (.int (nI y)), none] [] (hM st draft kept isKept tape taped pos begun sort fault wrongAt rows places aheads readings isFound now at_ place rank nounBits verbBits inner table next powers things holding patterns seeded lanes sizes cells) v h'
  | 0, y, st, draft, kept, isKept, tape, taped, pos, begun, sort, fault, wrongAt, rows, places, aheads, readings, isFound, now, at_, place, rank, nounBits, verbBits, inner, table, next, powers, things, holding, patterns, seeded, lanes, sizes, cells, mM, P, hP, hI, hi, hT => by
    have hn4 := hS.2.1
    have : y = n := by omega
    subst this
    have e1 : nI left + (-1 : Int32) = nI left - 1 := (Int32.sub_eq_add_neg _ _).symm
    refine ⟨table, next, fun b hb => ?_, fun v h' g => b_X9_findsPlace_59 (pk_le y y (fun _ => by rw [e1]; exact g) (fun z => by omega) mM.1)⟩
    rw [hT b hb]
    cases e : rd_kd y o l h left with
    | some x =>
      have := (rd_kd_some e).1
      have : mt_y (some x) y = true := decide_eq_true this
      rw [this, if_pos rfl]
    | none =>
      have : mt_y none y = false := rfl
      rw [this, if_neg (by decide)]
      have fit := rd_fit_ok y (by omega) o hS.2.2.2.1 hS.2.2.1 l hl h (by omega) left (by omega)
      rw [e] at fit
      have e2 : rd_kd y o l h (left + 1) = none := of_decide_eq_true fit
      rw [ev, ev, e, e2]
  | m + 1, y, st, draft, kept, isKept, tape, taped, pos, begun, sort, fault, wrongAt, rows, places, aheads, readings, isFound, now, at_, place, rank, nounBits, verbBits, inner, table, next, powers, things, holding, patterns, seeded, lanes, sizes, cells, mM, P, hP, hI, hi, hT => by
    have hn4 := hS.2.1
    have hy : y < n := by omega
    have hkn := kpow hk1 hk hn4
    obtain ⟨a1, a2⟩ := hP y hy
    have c1' := rd_pl_5 (o := o) (l := l) hn4 hy
    have c3' := rd_rk_le n o l y
    by_cases e : rd_kd n o l h left = some y
    · obtain ⟨_, e1, e2⟩ := rd_kd_some e
      have hm0 : mt_y (rd_kd n o l h left) y = false := by rw [e]; exact decide_eq_false (by omega)
      have hm1 : mt_y (rd_kd n o l h left) (y + 1) = true := by rw [e]; exact decide_eq_true (by omega)
      rw [hm0, if_neg (by decide)] at hT
      obtain ⟨nx, n1, n2⟩ := m_fp2_104 (d := d) (x1 := nI r) (x2 := cv h) (x4 := nI left) hk1 hk hS hy (k ^ n) 0 (st := st) (draft := draft) (kept := kept) (isKept := isKept) (tape := tape) (taped := taped) (pos := pos) (begun := begun) (sort := sort) (fault := fault) (wrongAt := wrongAt) (rows := rows) (places := places) (aheads := aheads) (readings := readings) (isFound := isFound) (now := now) (at_ := at_) (place := place) (rank := rank) (nounBits := nounBits) (verbBits := verbBits) (inner := inner) (table := table) (next := next) (powers := powers) (things := things) (holding := holding) (patterns := patterns) (seeded := seeded) (lanes := lanes) (sizes := sizes) (cells := cells) mM P (by omega) (fun b hb => by omega)
      obtain ⟨tb, t1, t2⟩ := m_fp2_134 (d := d) (K := k ^ n) (y := y) (x1 := nI r) (x2 := cv h) (x4 := nI left) hkn.2 (by omega) (k ^ n) 0 (st := st) (draft := draft) (kept := kept) (isKept := isKept) (tape := tape) (taped := taped) (pos := pos) (begun := begun) (sort := sort) (fault := fault) (wrongAt := wrongAt) (rows := rows) (places := places) (aheads := aheads) (readings := readings) (isFound := isFound) (now := now) (at_ := at_) (place := place) (rank := rank) (nounBits := nounBits) (verbBits := verbBits) (inner := inner) (table := table) (next := nx) (powers := powers) (things := things) (holding := holding) (patterns := patterns) (seeded := seeded) (lanes := lanes) (sizes := sizes) (cells := cells) (by omega) (fun b hb => by omega)
      obtain ⟨table', next', p1, p2⟩ := m_fp2_59 (d := d) (F := F) hk1 hk hS hl hh hr hf m (y + 1) (st := st) (draft := draft) (kept := kept) (isKept := isKept) (tape := tape) (taped := taped) (pos := pos) (begun := begun) (sort := sort) (fault := fault) (wrongAt := wrongAt) (rows := rows) (places := places) (aheads := aheads) (readings := readings) (isFound := isFound) (now := now) (at_ := at_) (place := place) (rank := rank) (nounBits := nounBits) (verbBits := verbBits) (inner := inner) (table := tb) (next := nx) (powers := powers) (things := things) (holding := holding) (patterns := patterns) (seeded := seeded) (lanes := lanes) (sizes := sizes) (cells := cells) mM P hP hI (by omega) (fun b hb => by
        rw [hm1, if_pos rfl, t1 b hb, n1 b hb]
        exact ev_step hk1 hk hS hl (by omega) (by omega) e hb (hI y hy e1) hT)
      refine ⟨table', next', p1, fun v h' g => b_X9_findsPlace_59 (pk_le n y (fun z => by omega) (fun _ => ⟨4 * r + y, ixl r y, by omega, ny (by rw [a1, e1]) ⟨4 * r + y, ixl r y, by omega, ny (by rw [a2, e2]) ?_⟩⟩) mM.1)⟩
      exact n2 v h' (t2 v h' (p2 v h' g))
    · have hm1 : mt_y (rd_kd n o l h left) (y + 1) = mt_y (rd_kd n o l h left) y := by
        cases c : rd_kd n o l h left with
        | none => rfl
        | some x =>
          have : x ≠ y := fun z => e (by rw [c, z])
          unfold mt_y
          simp only
          by_cases q : x < y
          · rw [decide_eq_true q, decide_eq_true (by omega)]
          · rw [decide_eq_false q, decide_eq_false (by omega)]
      have hne : ¬ (rd_pl n o l y = h ∧ rd_rk n o l y = left) := fun z => e (by
        have := rd_kd_u n (by omega) o hS.2.2.2.1 hS.2.2.1 l hl y hy
        rw [z.1, z.2] at this
        exact this)
      obtain ⟨table', next', p1, p2⟩ := m_fp2_59 (d := d) (F := F) hk1 hk hS hl hh hr hf m (y + 1) (st := st) (draft := draft) (kept := kept) (isKept := isKept) (tape := tape) (taped := taped) (pos := pos) (begun := begun) (sort := sort) (fault := fault) (wrongAt := wrongAt) (rows := rows) (places := places) (aheads := aheads) (readings := readings) (isFound := isFound) (now := now) (at_ := at_) (place := place) (rank := rank) (nounBits := nounBits) (verbBits := verbBits) (inner := inner) (table := table) (next := next) (powers := powers) (things := things) (holding := holding) (patterns := patterns) (seeded := seeded) (lanes := lanes) (sizes := sizes) (cells := cells) mM P hP hI (by omega) (fun b hb => by rw [hm1]; exact hT b hb)
      refine ⟨table', next', p1, fun v h' g => b_X9_findsPlace_59 (pk_le n y (fun z => by omega) (fun _ => ⟨4 * r + y, ixl r y, by omega, fun _ => by rw [nI_1]; exact p2 v h' g, fun z => ⟨4 * r + y, ixl r y, by omega, fun _ => by rw [nI_1]; exact p2 v h' g, fun w => ?_⟩⟩) mM.1)⟩
      rw [a1, cv_inj _ c1' _ (by omega)] at z
      rw [a2, nI_eq (by omega) (by omega)] at w
      exact absurd ⟨z, w⟩ hne
theorem m_fp2_51 {d n o k h r : Nat} {V : Int32} {Q U W : Nat → Int32} {F : Nat → Int64} {l : List Nat} (hk1 : 1 ≤ k) (hk : k ≤ 4) (hS : sn_ok n o V Q U W) (hl : l ∈ rd_perms n) (hh : h = 4 ∨ h < n) (hr : r < 24) : ∀ (L : Nat) {st draft kept isKept tape : Nat → Int32} {taped pos begun sort fault wrongAt : Int32} {rows places aheads : Nat → Int32} {readings isFound : Int32} {now at_ place rank : Nat → Int32} {nounBits verbBits inner table next : Nat → Int64} {powers : Nat → Int32} {things : Int32} {holding patterns : Nat → Int64} {seeded : Int32} {lanes sizes cells : Nat → Int32}, sn_M st 0 n o V Q U W → pw_M n k powers things → (∀ x, x < n → places (4 * r + x) = cv (rd_pl n o l x) ∧ aheads (4 * r + x) = nI (rd_rk n o l x)) → (∀ x, x < n → rd_pl n o l x = h → ∀ b, b < k ^ n → inner (256 * x + b) = ev k Q (rd_kd n o l) (ev_en n o k V U W F) 4 x 0 (dg k b)) → L ≤ n → (∀ b, b < k ^ n → table b = ev k Q (rd_kd n o l) (ev_en n o k V U W F) 4 h L (dg k b)) → ∃ table' next' : Nat → Int64, (∀ b, b < k ^ n → table' b = ev k Q (rd_kd n o l) (ev_en n o k V U W F) 4 h 0 (dg k b)) ∧ ∀ (v : Option Value) (h' : aH), Go (d + 2) 128 175 [some (.ref 0), none, some (.int (cv h)), some (.int (nI (k ^ n))), some (.int (0 : Int32)), none, none] [] (hM st draft kept isKept tape taped pos begun sort fault wrongAt rows places aheads readings isFound now at_ place rank nounBits verbBits inner table' next' powers things holding patterns seeded lanes sizes cells) v h' → Go (d + 2) 128 51 [some (.ref 0), some (.int (nI r)), some (.int (cv h)), some (.int (nI (k ^ n))), some (.int (nI L - 1)), none, none] [] (hM st draft kept isKept tape taped pos begun sort fault wrongAt rows places aheads readings isFound now at_ place rank nounBits verbBits inner table next powers things holding patterns seeded lanes sizes cells) v h'
  | 0, st, draft, kept, isKept, tape, taped, pos, begun, sort, fault, wrongAt, rows, places, aheads, readings, isFound, now, at_, place, rank, nounBits, verbBits, inner, table, next, powers, things, holding, patterns, seeded, lanes, sizes, cells, mM, P, hP, hI, hL, hT => ⟨table, next, hT, fun v h' g => b_X9_findsPlace_51 (cy (by decide) g)⟩
  | L + 1, st, draft, kept, isKept, tape, taped, pos, begun, sort, fault, wrongAt, rows, places, aheads, readings, isFound, now, at_, place, rank, nounBits, verbBits, inner, table, next, powers, things, holding, patterns, seeded, lanes, sizes, cells, mM, P, hP, hI, hL, hT => by
    have hn4 := hS.2.1
    have e0 : nI (L + 1) - 1 = nI L := nI_pred L
    obtain ⟨tb, nx, t1, t2⟩ := m_fp2_59 (d := d) (F := F) (left := L) hk1 hk hS hl hh hr (by omega) n 0 (st := st) (draft := draft) (kept := kept) (isKept := isKept) (tape := tape) (taped := taped) (pos := pos) (begun := begun) (sort := sort) (fault := fault) (wrongAt := wrongAt) (rows := rows) (places := places) (aheads := aheads) (readings := readings) (isFound := isFound) (now := now) (at_ := at_) (place := place) (rank := rank) (nounBits := nounBits) (verbBits := verbBits) (inner := inner) (table := table) (next := next) (powers := powers) (things := things) (holding := holding) (patterns := patterns) (seeded := seeded) (lanes := lanes) (sizes := sizes) (cells := cells) mM P hP hI (by omega) (fun b hb => by
      have : mt_y (rd_kd n o l h L) 0 = false := by
        cases rd_kd n o l h L with
        | none => rfl
        | some x => exact decide_eq_false (Nat.not_lt_zero x)
      rw [this, if_neg (by decide)]
      exact hT b hb)
    obtain ⟨table', next', p1, p2⟩ := m_fp2_51 (d := d) (F := F) hk1 hk hS hl hh hr L (st := st) (draft := draft) (kept := kept) (isKept := isKept) (tape := tape) (taped := taped) (pos := pos) (begun := begun) (sort := sort) (fault := fault) (wrongAt := wrongAt) (rows := rows) (places := places) (aheads := aheads) (readings := readings) (isFound := isFound) (now := now) (at_ := at_) (place := place) (rank := rank) (nounBits := nounBits) (verbBits := verbBits) (inner := inner) (table := tb) (next := nx) (powers := powers) (things := things) (holding := holding) (patterns := patterns) (seeded := seeded) (lanes := lanes) (sizes := sizes) (cells := cells) mM P hP hI (by omega) t1
    refine ⟨table', next', p1, fun v h' g => ?_⟩
    rw [e0]
    exact b_X9_findsPlace_51 (cn (nI_pos (by omega)) (t2 v h' (p2 v h' g)))
theorem m_fp2_175 {d K h : Nat} (hK : K ≤ 256) (hh : h < 4) : ∀ (m a : Nat) {st draft kept isKept tape : Nat → Int32} {taped pos begun sort fault wrongAt : Int32} {rows places aheads : Nat → Int32} {readings isFound : Int32} {now at_ place rank : Nat → Int32} {nounBits verbBits inner table next : Nat → Int64} {powers : Nat → Int32} {things : Int32} {holding patterns : Nat → Int64} {seeded : Int32} {lanes sizes cells : Nat → Int32}, a + m = K → ∃ inner' : Nat → Int64, (∀ b, a ≤ b → b < K → inner' (256 * h + b) = table b) ∧ (∀ c, (c < 256 * h + a ∨ 256 * h + 256 ≤ c) → inner' c = inner c) ∧ Go (d + 2) 128 175 [some (.ref 0), none, some (.int (nI h)), some (.int (nI K)), some (.int (nI a)), none, none] [] (hM st draft kept isKept tape taped pos begun sort fault wrongAt rows places aheads readings isFound now at_ place rank nounBits verbBits inner table next powers things holding patterns seeded lanes sizes cells) none (hM st draft kept isKept tape taped pos begun sort fault wrongAt rows places aheads readings isFound now at_ place rank nounBits verbBits inner' table next powers things holding patterns seeded lanes sizes cells)
  | 0, a, st, draft, kept, isKept, tape, taped, pos, begun, sort, fault, wrongAt, rows, places, aheads, readings, isFound, now, at_, place, rank, nounBits, verbBits, inner, table, next, powers, things, holding, patterns, seeded, lanes, sizes, cells, hi => ⟨inner, fun b h1 h2 => by omega, fun _ _ => rfl, b_X9_findsPlace_175 (pk_le K a (fun _ => ⟨rfl, rfl⟩) (fun z => by omega))⟩
  | m + 1, a, st, draft, kept, isKept, tape, taped, pos, begun, sort, fault, wrongAt, rows, places, aheads, readings, isFound, now, at_, place, rank, nounBits, verbBits, inner, table, next, powers, things, holding, patterns, seeded, lanes, sizes, cells, hi => by
    obtain ⟨inner', p1, p2, p3⟩ := m_fp2_175 (d := d) hK hh m (a + 1) (st := st) (draft := draft) (kept := kept) (isKept := isKept) (tape := tape) (taped := taped) (pos := pos) (begun := begun) (sort := sort) (fault := fault) (wrongAt := wrongAt) (rows := rows) (places := places) (aheads := aheads) (readings := readings) (isFound := isFound) (now := now) (at_ := at_) (place := place) (rank := rank) (nounBits := nounBits) (verbBits := verbBits) (inner := (vp_updL inner (256 * h + a) (table a))) (table := table) (next := next) (powers := powers) (things := things) (holding := holding) (patterns := patterns) (seeded := seeded) (lanes := lanes) (sizes := sizes) (cells := cells) (by omega)
    have e : (256 : Int32) * nI h + nI a = nI (256 * h + a) := by
      show nI 256 * nI h + nI a = _
      rw [pk_mul, nI_add]
    refine ⟨inner', fun b h1 h2 => ?_, fun c hc => ?_, b_X9_findsPlace_175 (pk_le K a (fun z => by omega) (fun _ => cn (nI_n4 _ (by omega)) ⟨a, rfl, by omega, _, e, by omega, by rw [nI_1]; exact p3⟩))⟩
    · by_cases eb : b = a
      · subst eb; rw [p2 _ (by omega), pk_uLs]
      · exact p1 b (by omega) h2
    · rw [p2 c (by omega), pk_uLn (by omega)]
theorem m_findsPlace {d n o k h r : Nat} {V : Int32} {Q U W : Nat → Int32} {F : Nat → Int64} {l : List Nat} (hk1 : 1 ≤ k) (hk : k ≤ 4) (hS : sn_ok n o V Q U W) (hl : l ∈ rd_perms n) (hh : h = 4 ∨ h < n) (hr : r < 24) {st draft kept isKept tape : Nat → Int32} {taped pos begun sort fault wrongAt : Int32} {rows places aheads : Nat → Int32} {readings isFound : Int32} {now at_ place rank : Nat → Int32} {nounBits verbBits inner table next : Nat → Int64} {powers : Nat → Int32} {things : Int32} {holding patterns : Nat → Int64} {seeded : Int32} {lanes sizes cells : Nat → Int32} (mM : sn_M st 0 n o V Q U W) (B : nb_M k F nounBits verbBits) (P : pw_M n k powers things) (hP : ∀ x, x < n → places (4 * r + x) = cv (rd_pl n o l x) ∧ aheads (4 * r + x) = nI (rd_rk n o l x)) (hI : ∀ x, x < n → rd_pl n o l x = h → ∀ b, b < k ^ n → inner (256 * x + b) = ev k Q (rd_kd n o l) (ev_en n o k V U W F) 4 x 0 (dg k b)) : ∃ inner' table' next' : Nat → Int64, (∀ b, b < k ^ n → table' b = ev k Q (rd_kd n o l) (ev_en n o k V U W F) 4 h 0 (dg k b)) ∧ (h ≠ 4 → ∀ b, b < k ^ n → inner' (256 * h + b) = ev k Q (rd_kd n o l) (ev_en n o k V U W F) 4 h 0 (dg k b)) ∧ (∀ c, (h = 4 ∨ c < 256 * h ∨ 256 * h + 256 ≤ c) → inner' c = inner c) ∧ Go (d + 2) 128 0 [some (.ref 0), some (.int (nI r)), some (.int (cv h)), none, none, none, none] [] (hM st draft kept isKept tape taped pos begun sort fault wrongAt rows places aheads readings isFound now at_ place rank nounBits verbBits inner table next powers things holding patterns seeded lanes sizes cells) none (hM st draft kept isKept tape taped pos begun sort fault wrongAt rows places aheads readings isFound now at_ place rank nounBits verbBits inner' table' next' powers things holding patterns seeded lanes sizes cells) := by
  have hn4 := hS.2.1
  have hkn := kpow hk1 hk hn4
  obtain ⟨tb, t1, t2⟩ := m_fp2_15 (d := d) (r := nI r) (F := F) hk1 hk hS hh (k ^ n) 0 (st := st) (draft := draft) (kept := kept) (isKept := isKept) (tape := tape) (taped := taped) (pos := pos) (begun := begun) (sort := sort) (fault := fault) (wrongAt := wrongAt) (rows := rows) (places := places) (aheads := aheads) (readings := readings) (isFound := isFound) (now := now) (at_ := at_) (place := place) (rank := rank) (nounBits := nounBits) (verbBits := verbBits) (inner := inner) (table := table) (next := next) (powers := powers) (things := things) (holding := holding) (patterns := patterns) (seeded := seeded) (lanes := lanes) (sizes := sizes) (cells := cells) mM B P (by omega) (fun b hb => by omega)
  have hnone : rd_kd n o l h n = none := by
    cases e : rd_kd n o l h n with
    | none => rfl
    | some x =>
      obtain ⟨e1, e2, e3⟩ := rd_kd_some e
      have := rd_rk_lt n (by omega) o hS.2.2.2.1 hS.2.2.1 l hl x e1
      omega
  obtain ⟨table', next', p1, p2⟩ := m_fp2_51 (d := d) (F := F) hk1 hk hS hl hh hr n (st := st) (draft := draft) (kept := kept) (isKept := isKept) (tape := tape) (taped := taped) (pos := pos) (begun := begun) (sort := sort) (fault := fault) (wrongAt := wrongAt) (rows := rows) (places := places) (aheads := aheads) (readings := readings) (isFound := isFound) (now := now) (at_ := at_) (place := place) (rank := rank) (nounBits := nounBits) (verbBits := verbBits) (inner := inner) (table := tb) (next := next) (powers := powers) (things := things) (holding := holding) (patterns := patterns) (seeded := seeded) (lanes := lanes) (sizes := sizes) (cells := cells) mM P hP hI (Nat.le_refl _) (fun b hb => by rw [ev, hnone]; exact t1 b hb)
  by_cases h4 : h = 4
  · subst h4
    refine ⟨inner, table', next', p1, fun z => absurd rfl z, fun _ _ => rfl, b_X9_findsPlace_0 ⟨n, mM.1, by omega, ?_⟩⟩
    rw [P.2 n (Nat.le_refl _)]
    refine t2 _ _ (p2 _ _ (b_X9_findsPlace_175 (pk_le (k ^ n) 0 (fun z => by omega) (fun _ => cy rfl ⟨rfl, rfl⟩))))
  · obtain ⟨inner', i1, i2, i3⟩ := m_fp2_175 (d := d) (K := k ^ n) (h := h) hkn.2 (by omega) (k ^ n) 0 (st := st) (draft := draft) (kept := kept) (isKept := isKept) (tape := tape) (taped := taped) (pos := pos) (begun := begun) (sort := sort) (fault := fault) (wrongAt := wrongAt) (rows := rows) (places := places) (aheads := aheads) (readings := readings) (isFound := isFound) (now := now) (at_ := at_) (place := place) (rank := rank) (nounBits := nounBits) (verbBits := verbBits) (inner := inner) (table := table') (next := next') (powers := powers) (things := things) (holding := holding) (patterns := patterns) (seeded := seeded) (lanes := lanes) (sizes := sizes) (cells := cells) (by omega)
    refine ⟨inner', table', next', p1, fun _ b hb => by rw [i1 b (by omega) hb]; exact p1 b hb, fun c hc => i2 c (by omega), b_X9_findsPlace_0 ⟨n, mM.1, by omega, ?_⟩⟩
    rw [P.2 n (Nat.le_refl _)]
    rw [cv_lt h4] at p2 t2 ⊢
    exact t2 _ _ (p2 _ _ i3)
