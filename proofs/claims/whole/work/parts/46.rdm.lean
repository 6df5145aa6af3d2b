/-! readings: the reference's side: places, ranks -/
def rw_M (n : Nat) (l : List Nat) (now : Nat → Int32) : Prop := ∀ i, i < n → now i = nI (l.getD i 0)
def hs_M (n o : Nat) (st : Nat → Int32) : Prop := st 0 = nI n ∧ ∀ p, p < n → st (5 + 5 * p) = if p = 0 ∨ p = o then -4 else nI (p - 1)
theorem sn_S.hs {n o : Nat} {N O V : Int32} {Q U W st : Nat → Int32} (S : sn_S n o N O V Q U W st 0) : hs_M n o st := by
  refine ⟨S.2.2.2.1, fun p hp => ?_⟩
  have := (S.2.2.2.2.2.2 p hp).2.2.1
  rwa [Nat.zero_add] at this
theorem ix5 (x k : Nat) : ((3 : Int32) + (5 : Int32) * nI x) + nI k = nI (3 + 5 * x + k) := by
  show (nI 3 + nI 5 * nI x) + nI k = _
  rw [pk_mul, nI_add, nI_add]
theorem cv_lt {p : Nat} (h : p ≠ 4) : cv p = nI p := if_neg h
theorem nI_n4 : ∀ p, p < 24 → ¬ nI p = (-4 : Int32) := by decide +kernel
theorem rd_climb_4 (l : List Nat) (f : Nat → Nat) (x : Nat) : ∀ k, rd_climb l f x k 4 = 4
  | 0 => rfl
  | k + 1 => by unfold rd_climb; rw [if_neg (fun z => z.1 rfl)]
theorem m_fp_at {d n : Nat} {l : List Nat} (hn : n ≤ 4) (hr : l.length = n ∧ ∀ i, i < n → l.getD i 0 < n ∧ l.idxOf i < n ∧ l.idxOf (l.getD i 0) = i ∧ l.getD (l.idxOf i) 0 = i) : ∀ (m i : Nat) {st draft kept isKept tape : Nat → Int32} {taped pos begun sort fault wrongAt : Int32} {rows places aheads : Nat → Int32} {readings isFound : Int32} {now at_ place rank : Nat → Int32} {nounBits verbBits inner table next : Nat → Int64} {powers : Nat → Int32} {things : Int32} {holding patterns : Nat → Int64} {seeded : Int32} {lanes sizes cells : Nat → Int32}, rw_M n l now → i + m = n → (∀ j, j < i → at_ (l.getD j 0) = nI j) → ∃ at' : Nat → Int32, (∀ p, p < n → at' p = nI (l.idxOf p)) ∧ ∀ (v : Option Value) (h' : aH), Go (d + 1) 120 34 [some (.ref 0), some (.int (nI n)), some (.int (0 : Int32)), none, none] [] (hM st draft kept isKept tape taped pos begun sort fault wrongAt rows places aheads readings isFound now at' place rank nounBits verbBits inner table next powers things holding patterns seeded lanes sizes cells) v h' → Go (d + 1) 120 9 [some (.ref 0), some (.int (nI n)), some (.int (nI i)), none, none] [] (hM st draft kept isKept tape taped pos begun sort fault wrongAt rows places aheads readings isFound now at_ place rank nounBits verbBits inner table next powers things holding patterns seeded lanes sizes cells) v h'
  | 0, i, st, draft, kept, isKept, tape, taped, pos, begun, sort, fault, wrongAt, rows, places, aheads, readings, isFound, now, at_, place, rank, nounBits, verbBits, inner, table, next, powers, things, holding, patterns, seeded, lanes, sizes, cells, hw, hi, ha => ⟨at_, fun p hp => by
      have := hr.2 p hp
      have h2 := ha (l.idxOf p) (by omega)
      rw [this.2.2.2] at h2
      exact h2, fun v h' g => b_X9_findsPlaces_9 (pk_le n i (fun _ => g) (fun q => by omega))⟩
  | m + 1, i, st, draft, kept, isKept, tape, taped, pos, begun, sort, fault, wrongAt, rows, places, aheads, readings, isFound, now, at_, place, rank, nounBits, verbBits, inner, table, next, powers, things, holding, patterns, seeded, lanes, sizes, cells, hw, hi, ha => by
    obtain ⟨at', h1, h2⟩ := m_fp_at (d := d) hn hr m (i + 1) (st := st) (draft := draft) (kept := kept) (isKept := isKept) (tape := tape) (taped := taped) (pos := pos) (begun := begun) (sort := sort) (fault := fault) (wrongAt := wrongAt) (rows := rows) (places := places) (aheads := aheads) (readings := readings) (isFound := isFound) (now := now) (at_ := (upd at_ (l.getD i 0) (nI i))) (place := place) (rank := rank) (nounBits := nounBits) (verbBits := verbBits) (inner := inner) (table := table) (next := next) (powers := powers) (things := things) (holding := holding) (patterns := patterns) (seeded := seeded) (lanes := lanes) (sizes := sizes) (cells := cells) hw (by omega) (fun j hj => by
      by_cases e : j = i
      · subst e; rw [pk_us]
      · rw [pk_un (fun z => e ?_), ha j (by omega)]
        rw [← (hr.2 j (by omega)).2.2.1, z, (hr.2 i (by omega)).2.2.1])
    refine ⟨at', h1, fun v h' g => b_X9_findsPlaces_9 (pk_le n i (fun q => by omega) (fun _ => ⟨i, rfl, by omega, l.getD i 0, hw i (by omega), by have := (hr.2 i (by omega)).1; omega, ?_⟩))⟩
    rw [nI_1]
    exact h2 v h' g
theorem m_fp_77 {d n x : Nat} {l : List Nat} {f : Nat → Nat} (hn : n ≤ 4) (hx : x < n) (hid : ∀ i, i < n → l.idxOf i < n) (hf : ∀ y, y < x → f y = 4 ∨ f y < y) {v : Option Value} {h' : aH} : ∀ (k y : Nat) {st draft kept isKept tape : Nat → Int32} {taped pos begun sort fault wrongAt : Int32} {rows places aheads : Nat → Int32} {readings isFound : Int32} {now at_ place rank : Nat → Int32} {nounBits verbBits inner table next : Nat → Int64} {powers : Nat → Int32} {things : Int32} {holding patterns : Nat → Int64} {seeded : Int32} {lanes sizes cells : Nat → Int32}, (∀ p, p < n → at_ p = nI (l.idxOf p)) → (∀ y, y < x → place y = cv (f y)) → y ≤ k → y < x → Go (d + 1) 120 34 [some (.ref 0), some (.int (nI n)), some (.int (nI (x + 1))), none, none] [] (hM st draft kept isKept tape taped pos begun sort fault wrongAt rows places aheads readings isFound now at_ (upd place x (cv (rd_climb l f x k (f y)))) rank nounBits verbBits inner table next powers things holding patterns seeded lanes sizes cells) v h' → Go (d + 1) 120 77 [some (.ref 0), some (.int (nI n)), some (.int (nI x)), none, some (.int (nI y))] [] (hM st draft kept isKept tape taped pos begun sort fault wrongAt rows places aheads readings isFound now at_ place rank nounBits verbBits inner table next powers things holding patterns seeded lanes sizes cells) v h' := by
  intro k
  induction k with
  | zero =>
    intro y st draft kept isKept tape taped pos begun sort fault wrongAt rows places aheads readings isFound now at_ place rank nounBits verbBits inner table next powers things holding patterns seeded lanes sizes cells ha hp hk hy g
    have : y = 0 := by omega
    subst this
    have f0 : f 0 = 4 := by have := hf 0 hy; omega
    have p0 : place 0 = -4 := by rw [hp 0 hy, f0]; rfl
    refine b_X9_findsPlaces_77 ⟨0, rfl, by omega, cy p0 ⟨0, rfl, by omega, x, rfl, by omega, ?_⟩⟩
    rw [nI_1, p0]
    rw [f0] at g
    exact g
  | succ k ih =>
    intro y st draft kept isKept tape taped pos begun sort fault wrongAt rows places aheads readings isFound now at_ place rank nounBits verbBits inner table next powers things holding patterns seeded lanes sizes cells ha hp hk hy g
    by_cases f0 : f y = 4
    · have p0 : place y = -4 := by rw [hp y hy, f0]; rfl
      refine b_X9_findsPlaces_77 ⟨y, rfl, by omega, cy p0 ⟨y, rfl, by omega, x, rfl, by omega, ?_⟩⟩
      rw [nI_1, p0]
      rw [f0, rd_climb_4] at g
      exact g
    · have hlt : f y < y := by have := hf y hy; omega
      have p0 : place y = nI (f y) := by rw [hp y hy, cv_lt f0]
      have p4 : ¬ place y = -4 := by rw [p0]; exact nI_n4 _ (by omega)
      have b1 := hid x hx
      have b2 := hid (f y) (by omega)
      refine b_X9_findsPlaces_77 ⟨y, rfl, by omega, cn p4 ⟨x, rfl, by omega, y, rfl, by omega, f y, p0, by omega, pk_le (l.idxOf (f y)) (l.idxOf x) (fun z => ⟨y, rfl, by omega, x, rfl, by omega, ?_⟩) (fun z => ⟨y, rfl, by omega, ?_⟩) (ha _ (by omega)) (ha x hx)⟩⟩
      · rw [nI_1, p0]
        unfold rd_climb at g
        rw [if_neg (fun w => by omega), cv_lt f0] at g
        exact g
      · rw [p0]
        refine ih (f y) (st := st) (draft := draft) (kept := kept) (isKept := isKept) (tape := tape) (taped := taped) (pos := pos) (begun := begun) (sort := sort) (fault := fault) (wrongAt := wrongAt) (rows := rows) (places := places) (aheads := aheads) (readings := readings) (isFound := isFound) (now := now) (at_ := at_) (place := place) (rank := rank) (nounBits := nounBits) (verbBits := verbBits) (inner := inner) (table := table) (next := next) (powers := powers) (things := things) (holding := holding) (patterns := patterns) (seeded := seeded) (lanes := lanes) (sizes := sizes) (cells := cells) ha hp (by omega) (by omega) ?_
        unfold rd_climb at g
        rw [if_pos ⟨f0, z⟩] at g
        exact g
theorem m_fp_34 {d n o : Nat} {l : List Nat} (hn : n ≤ 4) (ho : o < n) (hr : l.length = n ∧ ∀ i, i < n → l.getD i 0 < n ∧ l.idxOf i < n ∧ l.idxOf (l.getD i 0) = i ∧ l.getD (l.idxOf i) 0 = i) : ∀ (m x : Nat) {st draft kept isKept tape : Nat → Int32} {taped pos begun sort fault wrongAt : Int32} {rows places aheads : Nat → Int32} {readings isFound : Int32} {now at_ place rank : Nat → Int32} {nounBits verbBits inner table next : Nat → Int64} {powers : Nat → Int32} {things : Int32} {holding patterns : Nat → Int64} {seeded : Int32} {lanes sizes cells : Nat → Int32}, hs_M n o st → (∀ p, p < n → at_ p = nI (l.idxOf p)) → (∀ y, y < x → place y = cv (rd_plf o l x y)) → x + m = n → ∃ place' : Nat → Int32, (∀ y, y < n → place' y = cv (rd_pl n o l y)) ∧ ∀ (v : Option Value) (h' : aH), Go (d + 1) 120 143 [some (.ref 0), some (.int (nI n)), some (.int (0 : Int32)), none, none] [] (hM st draft kept isKept tape taped pos begun sort fault wrongAt rows places aheads readings isFound now at_ place' rank nounBits verbBits inner table next powers things holding patterns seeded lanes sizes cells) v h' → Go (d + 1) 120 34 [some (.ref 0), some (.int (nI n)), some (.int (nI x)), none, none] [] (hM st draft kept isKept tape taped pos begun sort fault wrongAt rows places aheads readings isFound now at_ place rank nounBits verbBits inner table next powers things holding patterns seeded lanes sizes cells) v h'
  | 0, x, st, draft, kept, isKept, tape, taped, pos, begun, sort, fault, wrongAt, rows, places, aheads, readings, isFound, now, at_, place, rank, nounBits, verbBits, inner, table, next, powers, things, holding, patterns, seeded, lanes, sizes, cells, hH, ha, hp, hi => by
    have : x = n := by omega
    subst this
    exact ⟨place, hp, fun v h' g => b_X9_findsPlaces_34 (pk_le x x (fun _ => g) (fun q => by omega))⟩
  | m + 1, x, st, draft, kept, isKept, tape, taped, pos, begun, sort, fault, wrongAt, rows, places, aheads, readings, isFound, now, at_, place, rank, nounBits, verbBits, inner, table, next, powers, things, holding, patterns, seeded, lanes, sizes, cells, hH, ha, hp, hi => by
    have hxn : x < n := by omega
    have e5 : ((3 : Int32) + (5 : Int32) * nI x) + (2 : Int32) = nI (5 + 5 * x) := by
      have := ix5 x 2
      rw [show 3 + 5 * x + 2 = 5 + 5 * x by omega] at this
      exact this
    have hx5 := hH.2 x hxn
    obtain ⟨pl, hpl⟩ : ∃ pl : Nat → Int32, pl = upd place x (cv (rd_pl1 o l (rd_plf o l x) x)) := ⟨_, rfl⟩
    obtain ⟨place', h1, h2⟩ := m_fp_34 (d := d) hn ho hr m (x + 1) (st := st) (draft := draft) (kept := kept) (isKept := isKept) (tape := tape) (taped := taped) (pos := pos) (begun := begun) (sort := sort) (fault := fault) (wrongAt := wrongAt) (rows := rows) (places := places) (aheads := aheads) (readings := readings) (isFound := isFound) (now := now) (at_ := at_) (place := pl) (rank := rank) (nounBits := nounBits) (verbBits := verbBits) (inner := inner) (table := table) (next := next) (powers := powers) (things := things) (holding := holding) (patterns := patterns) (seeded := seeded) (lanes := lanes) (sizes := sizes) (cells := cells) hH ha (fun y hy => by
      show pl y = cv (if y = x then rd_pl1 o l (rd_plf o l x) x else rd_plf o l x y)
      rw [hpl]
      by_cases e : y = x
      · subst e; rw [if_pos rfl, pk_us]
      · rw [if_neg e, pk_un e]; exact hp y (by omega)) (by omega)
    refine ⟨place', h1, fun v h' g => ?_⟩
    have go := h2 v h' g
    have uu : ∀ a b : Int32, upd (upd place x a) x b = upd place x b := fun a b => by
      funext y
      by_cases e : y = x
      · subst e; rw [pk_us, pk_us]
      · rw [pk_un e, pk_un e, pk_un e]
    refine b_X9_findsPlaces_34 (pk_le n x (fun q => by omega) (fun _ => ⟨5 + 5 * x, e5, by omega, x, rfl, by omega, ?_⟩))
    by_cases h : x = 0 ∨ x = o
    · rw [if_pos h] at hx5
      rw [hx5, nI_1]
      have e : rd_pl1 o l (rd_plf o l x) x = 4 := by unfold rd_pl1; rw [if_pos h]
      rw [hpl, e] at go
      exact cy rfl go
    · rw [if_neg h] at hx5
      rw [hx5, nI_1]
      have b1 := (hr.2 x hxn).2.1
      have b2 := (hr.2 (x - 1) (by omega)).2.1
      have hne : l.idxOf (x - 1) ≠ l.idxOf x := fun z => by
        have c1 := (hr.2 x hxn).2.2.2
        have c2 := (hr.2 (x - 1) (by omega)).2.2.2
        rw [z, c1] at c2
        omega
      refine cn (nI_n4 _ (by omega)) ⟨x, rfl, by omega, x - 1, rfl, by omega, pk_le (l.idxOf (x - 1)) (l.idxOf x) (fun z => ?_) (fun z => ?_) (ha _ (by omega)) (ha x hxn)⟩
      · have e : rd_pl1 o l (rd_plf o l x) x = x - 1 := by unfold rd_pl1; rw [if_neg h, if_pos (by omega)]
        rw [hpl, e, cv_lt (by omega)] at go
        exact go
      · refine m_fp_77 (d := d) (f := rd_plf o l x) hn hxn (fun i hi => (hr.2 i hi).2.1) (rd_plf_b o l x) 4 (x - 1) (st := st) (draft := draft) (kept := kept) (isKept := isKept) (tape := tape) (taped := taped) (pos := pos) (begun := begun) (sort := sort) (fault := fault) (wrongAt := wrongAt) (rows := rows) (places := places) (aheads := aheads) (readings := readings) (isFound := isFound) (now := now) (at_ := at_) (place := (upd place x (nI (x - 1)))) (rank := rank) (nounBits := nounBits) (verbBits := verbBits) (inner := inner) (table := table) (next := next) (powers := powers) (things := things) (holding := holding) (patterns := patterns) (seeded := seeded) (lanes := lanes) (sizes := sizes) (cells := cells) ha (fun y hy => by rw [pk_un (by omega)]; exact hp y hy) (by omega) (by omega) ?_
        have e : rd_pl1 o l (rd_plf o l x) x = rd_climb l (rd_plf o l x) x 4 (rd_plf o l x (x - 1)) := by unfold rd_pl1; rw [if_neg h, if_neg (by omega)]
        rw [hpl, e] at go
        rw [uu]
        exact go
theorem m_fp_157 {d n o x : Nat} {l : List Nat} (hn : n ≤ 4) (hx : x < n) (hid : ∀ i, i < n → l.idxOf i < n) {v : Option Value} {h' : aH} : ∀ (m y : Nat) {st draft kept isKept tape : Nat → Int32} {taped pos begun sort fault wrongAt : Int32} {rows places aheads : Nat → Int32} {readings isFound : Int32} {now at_ place rank : Nat → Int32} {nounBits verbBits inner table next : Nat → Int64} {powers : Nat → Int32} {things : Int32} {holding patterns : Nat → Int64} {seeded : Int32} {lanes sizes cells : Nat → Int32}, (∀ p, p < n → at_ p = nI (l.idxOf p)) → (∀ y, y < n → place y = cv (rd_pl n o l y)) → y + m = n → rank x = nI (ct (fun y => decide (rd_pl n o l x = rd_pl n o l y ∧ l.idxOf y < l.idxOf x)) y) → (∀ rank' : Nat → Int32, (∀ z, z ≠ x → rank' z = rank z) → rank' x = nI (rd_rk n o l x) → Go (d + 1) 120 143 [some (.ref 0), some (.int (nI n)), some (.int (nI (x + 1))), none, none] [] (hM st draft kept isKept tape taped pos begun sort fault wrongAt rows places aheads readings isFound now at_ place rank' nounBits verbBits inner table next powers things holding patterns seeded lanes sizes cells) v h') → Go (d + 1) 120 157 [some (.ref 0), some (.int (nI n)), some (.int (nI x)), some (.int (nI y)), none] [] (hM st draft kept isKept tape taped pos begun sort fault wrongAt rows places aheads readings isFound now at_ place rank nounBits verbBits inner table next powers things holding patterns seeded lanes sizes cells) v h'
  | 0, y, st, draft, kept, isKept, tape, taped, pos, begun, sort, fault, wrongAt, rows, places, aheads, readings, isFound, now, at_, place, rank, nounBits, verbBits, inner, table, next, powers, things, holding, patterns, seeded, lanes, sizes, cells, ha, hp, hi, hk, K => by
    have : y = n := by omega
    subst this
    refine b_X9_findsPlaces_157 (pk_le y y (fun _ => ?_) (fun q => by omega))
    rw [nI_1]
    exact K rank (fun _ _ => rfl) hk
  | m + 1, y, st, draft, kept, isKept, tape, taped, pos, begun, sort, fault, wrongAt, rows, places, aheads, readings, isFound, now, at_, place, rank, nounBits, verbBits, inner, table, next, powers, things, holding, patterns, seeded, lanes, sizes, cells, ha, hp, hi, hk, K => by
    have hy : y < n := by omega
    have e2 : ct (fun y => decide (rd_pl n o l x = rd_pl n o l y ∧ l.idxOf y < l.idxOf x)) (y + 1) = ct (fun y => decide (rd_pl n o l x = rd_pl n o l y ∧ l.idxOf y < l.idxOf x)) y + (if decide (rd_pl n o l x = rd_pl n o l y ∧ l.idxOf y < l.idxOf x) then 1 else 0) := rfl
    have b1 := hid x hx
    have b2 := hid y hy
    have c1 := rd_pl_5 (o := o) (l := l) hn hx
    have c2 := rd_pl_5 (o := o) (l := l) hn hy
    have go : ∀ z : Int32, z = (if decide (rd_pl n o l x = rd_pl n o l y ∧ l.idxOf y < l.idxOf x) then 1 else 0) → Go (d + 1) 120 157 [some (.ref 0), some (.int (nI n)), some (.int (nI x)), some (.int (nI (y + 1))), none] [] (hM st draft kept isKept tape taped pos begun sort fault wrongAt rows places aheads readings isFound now at_ place (upd rank x (rank x + z)) nounBits verbBits inner table next powers things holding patterns seeded lanes sizes cells) v h' := by
      intro z hz
      refine m_fp_157 (d := d) (o := o) hn hx hid m (y + 1) (st := st) (draft := draft) (kept := kept) (isKept := isKept) (tape := tape) (taped := taped) (pos := pos) (begun := begun) (sort := sort) (fault := fault) (wrongAt := wrongAt) (rows := rows) (places := places) (aheads := aheads) (readings := readings) (isFound := isFound) (now := now) (at_ := at_) (place := place) (rank := (upd rank x (rank x + z))) (nounBits := nounBits) (verbBits := verbBits) (inner := inner) (table := table) (next := next) (powers := powers) (things := things) (holding := holding) (patterns := patterns) (seeded := seeded) (lanes := lanes) (sizes := sizes) (cells := cells) ha hp (by omega) ?_ (fun r' h1 h2 => K r' (fun w hw => by rw [h1 w hw, pk_un hw]) h2)
      rw [pk_us, e2, hk, hz]
      by_cases q : rd_pl n o l x = rd_pl n o l y ∧ l.idxOf y < l.idxOf x
      · rw [decide_eq_true q]; exact nI_1 _
      · rw [decide_eq_false q]; exact nI_add _ 0
    refine b_X9_findsPlaces_157 (pk_le n y (fun q => by omega) (fun _ => ⟨x, rfl, by omega, x, rfl, by omega, y, rfl, by omega, fun q => ⟨x, rfl, by omega, ?_⟩, fun q => ⟨y, rfl, by omega, x, rfl, by omega, x, rfl, by omega, ?_⟩⟩))
    · rw [hp x hx, hp y hy, cv_inj _ c1 _ c2] at q
      rw [nI_1]
      exact go 0 (by rw [decide_eq_false (fun z => q z.1)]; rfl)
    · rw [hp x hx, hp y hy, cv_inj _ c1 _ c2] at q
      rw [nI_1]
      refine go _ ?_
      rw [ha x hx, ha y hy]
      have hle := nI_leI (a := l.idxOf x) (b := l.idxOf y) (by omega) (by omega)
      by_cases z : l.idxOf y < l.idxOf x
      · rw [decide_eq_true ⟨q, z⟩, if_pos (fun w => by have := hle.mp w; omega)]; rfl
      · rw [decide_eq_false (fun w => z w.2), if_neg (fun w => w (hle.mpr (by omega)))]; rfl
theorem m_fp_143 {d n o : Nat} {l : List Nat} (hn : n ≤ 4) (hid : ∀ i, i < n → l.idxOf i < n) : ∀ (m x : Nat) {st draft kept isKept tape : Nat → Int32} {taped pos begun sort fault wrongAt : Int32} {rows places aheads : Nat → Int32} {readings isFound : Int32} {now at_ place rank : Nat → Int32} {nounBits verbBits inner table next : Nat → Int64} {powers : Nat → Int32} {things : Int32} {holding patterns : Nat → Int64} {seeded : Int32} {lanes sizes cells : Nat → Int32}, (∀ p, p < n → at_ p = nI (l.idxOf p)) → (∀ y, y < n → place y = cv (rd_pl n o l y)) → x + m = n → (∀ y, y < x → rank y = nI (rd_rk n o l y)) → ∃ rank' : Nat → Int32, (∀ y, y < n → rank' y = nI (rd_rk n o l y)) ∧ Go (d + 1) 120 143 [some (.ref 0), some (.int (nI n)), some (.int (nI x)), none, none] [] (hM st draft kept isKept tape taped pos begun sort fault wrongAt rows places aheads readings isFound now at_ place rank nounBits verbBits inner table next powers things holding patterns seeded lanes sizes cells) none (hM st draft kept isKept tape taped pos begun sort fault wrongAt rows places aheads readings isFound now at_ place rank' nounBits verbBits inner table next powers things holding patterns seeded lanes sizes cells)
  | 0, x, st, draft, kept, isKept, tape, taped, pos, begun, sort, fault, wrongAt, rows, places, aheads, readings, isFound, now, at_, place, rank, nounBits, verbBits, inner, table, next, powers, things, holding, patterns, seeded, lanes, sizes, cells, ha, hp, hi, hk => ⟨rank, fun y hy => hk y (by omega), b_X9_findsPlaces_143 (pk_le n x (fun _ => ⟨rfl, rfl⟩) (fun q => by omega))⟩
  | m + 1, x, st, draft, kept, isKept, tape, taped, pos, begun, sort, fault, wrongAt, rows, places, aheads, readings, isFound, now, at_, place, rank, nounBits, verbBits, inner, table, next, powers, things, holding, patterns, seeded, lanes, sizes, cells, ha, hp, hi, hk => by
    have hx : x < n := by omega
    obtain ⟨r3, h3⟩ : ∃ r3 : Nat → Int32, r3 = fun y => if y = x then nI (rd_rk n o l x) else rank y := ⟨_, rfl⟩
    obtain ⟨rank', q1, q2⟩ := m_fp_143 (d := d) (o := o) hn hid m (x + 1) (st := st) (draft := draft) (kept := kept) (isKept := isKept) (tape := tape) (taped := taped) (pos := pos) (begun := begun) (sort := sort) (fault := fault) (wrongAt := wrongAt) (rows := rows) (places := places) (aheads := aheads) (readings := readings) (isFound := isFound) (now := now) (at_ := at_) (place := place) (rank := r3) (nounBits := nounBits) (verbBits := verbBits) (inner := inner) (table := table) (next := next) (powers := powers) (things := things) (holding := holding) (patterns := patterns) (seeded := seeded) (lanes := lanes) (sizes := sizes) (cells := cells) ha hp (by omega) (fun y hy => by
      rw [h3]
      by_cases e : y = x
      · subst e; simp
      · simp only [if_neg e]; exact hk y (by omega))
    refine ⟨rank', q1, b_X9_findsPlaces_143 (pk_le n x (fun q => by omega) (fun _ => ⟨x, rfl, by omega, ?_⟩))⟩
    refine m_fp_157 (d := d) (o := o) hn hx hid n 0 (st := st) (draft := draft) (kept := kept) (isKept := isKept) (tape := tape) (taped := taped) (pos := pos) (begun := begun) (sort := sort) (fault := fault) (wrongAt := wrongAt) (rows := rows) (places := places) (aheads := aheads) (readings := readings) (isFound := isFound) (now := now) (at_ := at_) (place := place) (rank := (upd rank x 0)) (nounBits := nounBits) (verbBits := verbBits) (inner := inner) (table := table) (next := next) (powers := powers) (things := things) (holding := holding) (patterns := patterns) (seeded := seeded) (lanes := lanes) (sizes := sizes) (cells := cells) ha hp (by omega) (by rw [pk_us]; rfl) (fun r2 h1 h2 => ?_)
    have : r2 = r3 := by
      funext y
      rw [h3]
      by_cases e : y = x
      · subst e; simp [h2]
      · simp [e, h1 y e, pk_un e]
    rw [this]
    exact q2
theorem m_findsPlaces {d n o : Nat} {l : List Nat} (hn : n ≤ 4) (ho : o < n) (hl : l ∈ rd_perms n) {st draft kept isKept tape : Nat → Int32} {taped pos begun sort fault wrongAt : Int32} {rows places aheads : Nat → Int32} {readings isFound : Int32} {now at_ place rank : Nat → Int32} {nounBits verbBits inner table next : Nat → Int64} {powers : Nat → Int32} {things : Int32} {holding patterns : Nat → Int64} {seeded : Int32} {lanes sizes cells : Nat → Int32} (hH : hs_M n o st) (hw : rw_M n l now) : ∃ at' place' rank' : Nat → Int32, (∀ y, y < n → place' y = cv (rd_pl n o l y)) ∧ (∀ y, y < n → rank' y = nI (rd_rk n o l y)) ∧ Go (d + 1) 120 0 [some (.ref 0), none, none, none, none] [] (hM st draft kept isKept tape taped pos begun sort fault wrongAt rows places aheads readings isFound now at_ place rank nounBits verbBits inner table next powers things holding patterns seeded lanes sizes cells) none (hM st draft kept isKept tape taped pos begun sort fault wrongAt rows places aheads readings isFound now at' place' rank' nounBits verbBits inner table next powers things holding patterns seeded lanes sizes cells) := by
  have hr := rd_row n (by omega) l hl
  have hid : ∀ i, i < n → l.idxOf i < n := fun i hi => (hr.2 i hi).2.1
  obtain ⟨a', a1, a2⟩ := m_fp_at (d := d) hn hr n 0 (st := st) (draft := draft) (kept := kept) (isKept := isKept) (tape := tape) (taped := taped) (pos := pos) (begun := begun) (sort := sort) (fault := fault) (wrongAt := wrongAt) (rows := rows) (places := places) (aheads := aheads) (readings := readings) (isFound := isFound) (now := now) (at_ := at_) (place := place) (rank := rank) (nounBits := nounBits) (verbBits := verbBits) (inner := inner) (table := table) (next := next) (powers := powers) (things := things) (holding := holding) (patterns := patterns) (seeded := seeded) (lanes := lanes) (sizes := sizes) (cells := cells) hw (by omega) (fun j hj => by omega)
  obtain ⟨p', p1, p2⟩ := m_fp_34 (d := d) hn ho hr n 0 (st := st) (draft := draft) (kept := kept) (isKept := isKept) (tape := tape) (taped := taped) (pos := pos) (begun := begun) (sort := sort) (fault := fault) (wrongAt := wrongAt) (rows := rows) (places := places) (aheads := aheads) (readings := readings) (isFound := isFound) (now := now) (at_ := a') (place := place) (rank := rank) (nounBits := nounBits) (verbBits := verbBits) (inner := inner) (table := table) (next := next) (powers := powers) (things := things) (holding := holding) (patterns := patterns) (seeded := seeded) (lanes := lanes) (sizes := sizes) (cells := cells) hH a1 (fun j hj => by omega) (by omega)
  obtain ⟨r', r1, r2⟩ := m_fp_143 (d := d) (o := o) hn hid n 0 (st := st) (draft := draft) (kept := kept) (isKept := isKept) (tape := tape) (taped := taped) (pos := pos) (begun := begun) (sort := sort) (fault := fault) (wrongAt := wrongAt) (rows := rows) (places := places) (aheads := aheads) (readings := readings) (isFound := isFound) (now := now) (at_ := a') (place := p') (rank := rank) (nounBits := nounBits) (verbBits := verbBits) (inner := inner) (table := table) (next := next) (powers := powers) (things := things) (holding := holding) (patterns := patterns) (seeded := seeded) (lanes := lanes) (sizes := sizes) (cells := cells) a1 p1 (by omega) (fun j hj => by omega)
  refine ⟨a', p', r', p1, r1, b_X9_findsPlaces_0 ?_⟩
  rw [hH.1]
  exact a2 _ _ (p2 _ _ r2)
