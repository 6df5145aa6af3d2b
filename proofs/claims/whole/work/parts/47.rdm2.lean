/-! readings: the reference's side: found, the next row, the list -/
def tb_M (n o : Nat) (acc : List (List Nat)) (readings : Int32) (rows places aheads : Nat → Int32) : Prop := readings = nI acc.length ∧ ∀ r, r < acc.length → ∀ p, p < n → places (4 * r + p) = cv (rd_pl n o (acc.getD r []) p) ∧ aheads (4 * r + p) = nI (rd_rk n o (acc.getD r []) p) ∧ rows (4 * r + p) = nI ((acc.getD r []).getD p 0)
theorem m_found_14 {d n o r : Nat} {acc : List (List Nat)} {l : List Nat} (hn : n ≤ 4) (hr : r < acc.length) (h24 : acc.length ≤ 24) {st draft kept isKept tape : Nat → Int32} {taped pos begun sort fault wrongAt : Int32} {rows places aheads : Nat → Int32} {readings isFound : Int32} {now at_ place rank : Nat → Int32} {nounBits verbBits inner table next : Nat → Int64} {powers : Nat → Int32} {things : Int32} {holding patterns : Nat → Int64} {seeded : Int32} {lanes sizes cells : Nat → Int32} (hN : st 0 = nI n) (T : tb_M n o acc readings rows places aheads) (hL : ∀ y, y < n → place y = cv (rd_pl n o l y)) (hQ : ∀ y, y < n → rank y = nI (rd_rk n o l y)) {v : Option Value} {h' : aH} : ∀ (m p : Nat) (s : Bool), p + m = n → ((s && al (fun p => decide (rd_pl n o (acc.getD r []) p = rd_pl n o l p ∧ rd_rk n o (acc.getD r []) p = rd_rk n o l p)) m p) = true → some (.int (nI r)) = v ∧ hM st draft kept isKept tape taped pos begun sort fault wrongAt rows places aheads readings isFound now at_ place rank nounBits verbBits inner table next powers things holding patterns seeded lanes sizes cells = h') → ((s && al (fun p => decide (rd_pl n o (acc.getD r []) p = rd_pl n o l p ∧ rd_rk n o (acc.getD r []) p = rd_rk n o l p)) m p) = false → Go d 121 2 [some (.ref 0), some (.int (nI (r + 1))), none, none] [] (hM st draft kept isKept tape taped pos begun sort fault wrongAt rows places aheads readings isFound now at_ place rank nounBits verbBits inner table next powers things holding patterns seeded lanes sizes cells) v h') → Go d 121 14 [some (.ref 0), some (.int (nI r)), some (.int (if s then 1 else 0)), some (.int (nI p))] [] (hM st draft kept isKept tape taped pos begun sort fault wrongAt rows places aheads readings isFound now at_ place rank nounBits verbBits inner table next powers things holding patterns seeded lanes sizes cells) v h'
  | 0, p, s, hp, k1, k2 => by
    refine b_X9_found_14 (pk_le n p (fun _ => ?_) (fun q => by omega) hN)
    cases s with
    | true => exact cn (by decide) (k1 rfl)
    | false => exact cy rfl (by rw [nI_1]; exact k2 rfl)
  | m + 1, p, s, hp, k1, k2 => by
    obtain ⟨t1, t2, _⟩ := T.2 r hr p (by omega)
    have b1 := rd_pl_5 (o := o) (l := acc.getD r []) hn (show p < n by omega)
    have b2 := rd_pl_5 (o := o) (l := l) hn (show p < n by omega)
    have b3 := rd_rk_le n o (acc.getD r []) p
    have b4 := rd_rk_le n o l p
    unfold al at k1 k2
    refine b_X9_found_14 (pk_le n p (fun q => by omega) (fun _ => ?_) hN)
    rw [nI_1]
    cases s with
    | false => exact cy rfl (m_found_14 hn hr h24 hN T hL hQ m (p + 1) false (by omega) (fun q => by cases q) (fun _ => k2 rfl))
    | true =>
      refine cn (by decide) ⟨4 * r + p, ixl r p, by omega, p, rfl, by omega, fun q => ?_, fun q => ⟨4 * r + p, ixl r p, by omega, p, rfl, by omega, ?_⟩⟩
      · rw [t1, hL p (by omega), cv_inj _ b1 _ b2] at q
        rw [decide_eq_false (fun z => q z.1)] at k2
        exact m_found_14 hn hr h24 hN T hL hQ m (p + 1) false (by omega) (fun q => by cases q) (fun _ => k2 rfl)
      · rw [t1, hL p (by omega), cv_inj _ b1 _ b2] at q
        rw [t2, hQ p (by omega)]
        by_cases z : rd_rk n o (acc.getD r []) p = rd_rk n o l p
        · rw [decide_eq_true ⟨q, z⟩, Bool.true_and] at k1 k2
          rw [z, if_pos rfl]
          exact m_found_14 hn hr h24 hN T hL hQ m (p + 1) true (by omega) k1 k2
        · rw [decide_eq_false (fun y => z y.2)] at k2
          rw [if_neg (fun y => z ((nI_eq (by omega) (by omega)).mp y))]
          exact m_found_14 hn hr h24 hN T hL hQ m (p + 1) false (by omega) (fun q => by cases q) (fun _ => k2 rfl)
theorem m_found_l {d n o : Nat} {acc : List (List Nat)} {l : List Nat} (hn : n ≤ 4) (h24 : acc.length ≤ 24) {st draft kept isKept tape : Nat → Int32} {taped pos begun sort fault wrongAt : Int32} {rows places aheads : Nat → Int32} {readings isFound : Int32} {now at_ place rank : Nat → Int32} {nounBits verbBits inner table next : Nat → Int64} {powers : Nat → Int32} {things : Int32} {holding patterns : Nat → Int64} {seeded : Int32} {lanes sizes cells : Nat → Int32} (hN : st 0 = nI n) (T : tb_M n o acc readings rows places aheads) (hL : ∀ y, y < n → place y = cv (rd_pl n o l y)) (hQ : ∀ y, y < n → rank y = nI (rd_rk n o l y)) : ∀ (m r : Nat), r + m = acc.length → Go d 121 2 [some (.ref 0), some (.int (nI r)), none, none] [] (hM st draft kept isKept tape taped pos begun sort fault wrongAt rows places aheads readings isFound now at_ place rank nounBits verbBits inner table next powers things holding patterns seeded lanes sizes cells) (some (.int (match fr (fun r => rd_same n o (acc.getD r []) l) m r with | none => -4 | some k => nI k))) (hM st draft kept isKept tape taped pos begun sort fault wrongAt rows places aheads readings isFound now at_ place rank nounBits verbBits inner table next powers things holding patterns seeded lanes sizes cells)
  | 0, r, hr => b_X9_found_2 (pk_le acc.length r (fun _ => ⟨rfl, rfl⟩) (fun q => by omega) T.1)
  | m + 1, r, hr => by
    refine b_X9_found_2 (pk_le acc.length r (fun q => by omega) (fun _ => ?_) T.1)
    refine m_found_14 hn (by omega) h24 hN T hL hQ n 0 true (by omega) (fun q => ?_) (fun q => ?_)
    · have q : rd_same n o (acc.getD r []) l = true := q
      unfold fr
      rw [if_pos q]
      exact ⟨rfl, rfl⟩
    · have q : rd_same n o (acc.getD r []) l = false := q
      unfold fr
      rw [if_neg (by rw [q]; decide)]
      exact m_found_l hn h24 hN T hL hQ m (r + 1) (by omega)
theorem m_found {d n o : Nat} {acc : List (List Nat)} {l : List Nat} (hn : n ≤ 4) (h24 : acc.length ≤ 24) {st draft kept isKept tape : Nat → Int32} {taped pos begun sort fault wrongAt : Int32} {rows places aheads : Nat → Int32} {readings isFound : Int32} {now at_ place rank : Nat → Int32} {nounBits verbBits inner table next : Nat → Int64} {powers : Nat → Int32} {things : Int32} {holding patterns : Nat → Int64} {seeded : Int32} {lanes sizes cells : Nat → Int32} (hN : st 0 = nI n) (T : tb_M n o acc readings rows places aheads) (hL : ∀ y, y < n → place y = cv (rd_pl n o l y)) (hQ : ∀ y, y < n → rank y = nI (rd_rk n o l y)) : Go d 121 0 [some (.ref 0), none, none, none] [] (hM st draft kept isKept tape taped pos begun sort fault wrongAt rows places aheads readings isFound now at_ place rank nounBits verbBits inner table next powers things holding patterns seeded lanes sizes cells) (some (.int (match rd_find n o acc l with | none => -4 | some k => nI k))) (hM st draft kept isKept tape taped pos begun sort fault wrongAt rows places aheads readings isFound now at_ place rank nounBits verbBits inner table next powers things holding patterns seeded lanes sizes cells) := b_X9_found_0 (m_found_l hn h24 hN T hL hQ acc.length 0 (by omega))
/-! the next row -/
def nx1 (l : List Nat) : Nat → Option Nat
  | 0 => none
  | i + 1 => if l.getD (i + 1) 0 < l.getD i 0 then nx1 l i else some i
def nx2 (l : List Nat) (a : Nat) : Nat → Nat
  | 0 => 0
  | j + 1 => if l.getD (j + 1) 0 < a then nx2 l a j else j + 1
def nxs (l : List Nat) (i j : Nat) : List Nat := (l.set i (l.getD j 0)).set j (l.getD i 0)
def nx3 (n i : Nat) : Nat → Nat → List Nat → List Nat
  | 0, _, l => l
  | f + 1, k, l => if i + k < n - k then nx3 n i f (k + 1) (nxs l (i + k) (n - k)) else l
theorem nx_ok : ∀ n, n < 5 → 2 ≤ n → ∀ k, k < (rd_perms n).length → (match nx1 ((rd_perms n).getD k []) (n - 1) with | none => decide (k + 1 = (rd_perms n).length) | some i => decide (k + 1 < (rd_perms n).length ∧ i + 1 < n ∧ ((rd_perms n).getD k []).getD i 0 ≤ ((rd_perms n).getD k []).getD (i + 1) 0 ∧ i < nx2 ((rd_perms n).getD k []) (((rd_perms n).getD k []).getD i 0) (n - 1) ∧ nx3 n i 4 1 (nxs ((rd_perms n).getD k []) i (nx2 ((rd_perms n).getD k []) (((rd_perms n).getD k []).getD i 0) (n - 1))) = (rd_perms n).getD (k + 1) [])) = true := by decide +kernel
theorem getD_set {l : List Nat} {i j x : Nat} (hi : i < l.length) : (l.set i x).getD j 0 = if j = i then x else l.getD j 0 := by
  rw [List.getD_eq_getElem?_getD, List.getElem?_set, List.getD_eq_getElem?_getD]
  by_cases e : i = j
  · subst e; simp [hi]
  · simp [e, Ne.symm e]
theorem rw_M.sw {n : Nat} {l : List Nat} {now : Nat → Int32} (h : rw_M n l now) (hl : l.length = n) {a b : Nat} (ha : a < n) (hb : b < n) : rw_M n (nxs l a b) (upd (upd now a (now b)) b (now a)) := by
  intro i hi
  unfold nxs
  rw [getD_set (by rw [List.length_set]; omega), getD_set (by omega)]
  by_cases e : i = b
  · subst e; rw [pk_us, if_pos rfl, h a ha]
  · rw [pk_un e, if_neg e]
    by_cases e2 : i = a
    · subst e2; rw [pk_us, if_pos rfl, h b hb]
    · rw [pk_un e2, if_neg e2, h i hi]
theorem m_hn_78 {d n i : Nat} (hn2 : 2 ≤ n) (hn : n ≤ 4) (hi : i < n) : ∀ (f k : Nat) (l : List Nat) {st draft kept isKept tape : Nat → Int32} {taped pos begun sort fault wrongAt : Int32} {rows places aheads : Nat → Int32} {readings isFound : Int32} {now at_ place rank : Nat → Int32} {nounBits verbBits inner table next : Nat → Int64} {powers : Nat → Int32} {things : Int32} {holding patterns : Nat → Int64} {seeded : Int32} {lanes sizes cells : Nat → Int32}, f + k = 5 → 1 ≤ k → (k ≤ 2 ∨ f = 0) → l.length = n → rw_M n l now → k ≤ 2 → ∃ now' : Nat → Int32, rw_M n (nx3 n i f k l) now' ∧ Go (d + 1) 122 78 [some (.ref 0), some (.int (nI n)), some (.int (nI i)), none, some (.int (nI k))] [] (hM st draft kept isKept tape taped pos begun sort fault wrongAt rows places aheads readings isFound now at_ place rank nounBits verbBits inner table next powers things holding patterns seeded lanes sizes cells) (some (.int (1 : Int32))) (hM st draft kept isKept tape taped pos begun sort fault wrongAt rows places aheads readings isFound now' at_ place rank nounBits verbBits inner table next powers things holding patterns seeded lanes sizes cells)
  | 0, k, l, st, draft, kept, isKept, tape, taped, pos, begun, sort, fault, wrongAt, rows, places, aheads, readings, isFound, now, at_, place, rank, nounBits, verbBits, inner, table, next, powers, things, holding, patterns, seeded, lanes, sizes, cells, hf, hk, hk2, hl, hw, hk3 => by omega
  | f + 1, k, l, st, draft, kept, isKept, tape, taped, pos, begun, sort, fault, wrongAt, rows, places, aheads, readings, isFound, now, at_, place, rank, nounBits, verbBits, inner, table, next, powers, things, holding, patterns, seeded, lanes, sizes, cells, hf, hk, hk2, hl, hw, hk3 => by
    have e1 : nI n - nI k = nI (n - k) := pk_sub (by omega)
    have e2 : nI i + nI k = nI (i + k) := nI_add i k
    unfold nx3
    by_cases h : i + k < n - k
    · rw [if_pos h]
      obtain ⟨now', w, g⟩ := m_hn_78 (d := d) hn2 hn hi f (k + 1) (nxs l (i + k) (n - k)) (st := st) (draft := draft) (kept := kept) (isKept := isKept) (tape := tape) (taped := taped) (pos := pos) (begun := begun) (sort := sort) (fault := fault) (wrongAt := wrongAt) (rows := rows) (places := places) (aheads := aheads) (readings := readings) (isFound := isFound) (now := (upd (upd now (i + k) (now (n - k))) (n - k) (now (i + k)))) (at_ := at_) (place := place) (rank := rank) (nounBits := nounBits) (verbBits := verbBits) (inner := inner) (table := table) (next := next) (powers := powers) (things := things) (holding := holding) (patterns := patterns) (seeded := seeded) (lanes := lanes) (sizes := sizes) (cells := cells) (by omega) (by omega) (by omega) (by unfold nxs; rw [List.length_set, List.length_set]; exact hl) (hw.sw hl (by omega) (by omega)) (by omega)
      exact ⟨now', w, b_X9_hasNext_78 (pk_le (n - k) (i + k) (fun q => by omega) (fun _ => ⟨i + k, e2, by omega, n - k, e1, by omega, i + k, e2, by omega, n - k, e1, by omega, by rw [nI_1]; exact g⟩) e1 e2)⟩
    · rw [if_neg h]
      exact ⟨now, hw, b_X9_hasNext_78 (pk_le (n - k) (i + k) (fun _ => ⟨rfl, rfl⟩) (fun q => by omega) e1 e2)⟩
theorem m_hn_48 {d n i : Nat} {l : List Nat} (hn : n ≤ 4) (hi : i + 1 < n) (hd : ∀ j, j < n → l.getD j 0 < n) (hu : l.getD i 0 ≤ l.getD (i + 1) 0) {st draft kept isKept tape : Nat → Int32} {taped pos begun sort fault wrongAt : Int32} {rows places aheads : Nat → Int32} {readings isFound : Int32} {now at_ place rank : Nat → Int32} {nounBits verbBits inner table next : Nat → Int64} {powers : Nat → Int32} {things : Int32} {holding patterns : Nat → Int64} {seeded : Int32} {lanes sizes cells : Nat → Int32} (hw : rw_M n l now) {v : Option Value} {h' : aH} : ∀ (j : Nat), i < j → j < n → Go (d + 1) 122 78 [some (.ref 0), some (.int (nI n)), some (.int (nI i)), none, some (.int (1 : Int32))] [] (hM st draft kept isKept tape taped pos begun sort fault wrongAt rows places aheads readings isFound (upd (upd now i (now (nx2 l (l.getD i 0) j))) (nx2 l (l.getD i 0) j) (now i)) at_ place rank nounBits verbBits inner table next powers things holding patterns seeded lanes sizes cells) v h' → Go (d + 1) 122 48 [some (.ref 0), some (.int (nI n)), some (.int (nI i)), some (.int (nI j)), none] [] (hM st draft kept isKept tape taped pos begun sort fault wrongAt rows places aheads readings isFound now at_ place rank nounBits verbBits inner table next powers things holding patterns seeded lanes sizes cells) v h'
  | 0, h1, _, _ => by omega
  | j + 1, h1, h2, g => by
    unfold nx2 at g
    have b1 := hd i (by omega)
    have b2 := hd (j + 1) h2
    refine b_X9_hasNext_48 ⟨j + 1, rfl, by omega, i, rfl, by omega, pk_le (l.getD i 0) (l.getD (j + 1) 0) (fun q => ?_) (fun q => ?_) (hw i (by omega)) (hw _ h2)⟩
    · rw [if_neg (by omega)] at g
      exact ⟨i, rfl, by omega, j + 1, rfl, by omega, i, rfl, by omega, j + 1, rfl, by omega, g⟩
    · rw [if_pos q] at g
      rw [pk_m1]
      have : j ≠ i := fun e => by subst e; omega
      exact m_hn_48 hn hi hd hu hw j (by omega) (by omega) g
theorem m_hn_11 {d n : Nat} {l : List Nat} (hn : n ≤ 4) (hd : ∀ j, j < n → l.getD j 0 < n) {st draft kept isKept tape : Nat → Int32} {taped pos begun sort fault wrongAt : Int32} {rows places aheads : Nat → Int32} {readings isFound : Int32} {now at_ place rank : Nat → Int32} {nounBits verbBits inner table next : Nat → Int64} {powers : Nat → Int32} {things : Int32} {holding patterns : Nat → Int64} {seeded : Int32} {lanes sizes cells : Nat → Int32} (hw : rw_M n l now) {v : Option Value} {h' : aH} : ∀ (i : Nat), i < n → (nx1 l i = none → some (.int (0 : Int32)) = v ∧ hM st draft kept isKept tape taped pos begun sort fault wrongAt rows places aheads readings isFound now at_ place rank nounBits verbBits inner table next powers things holding patterns seeded lanes sizes cells = h') → (∀ j, nx1 l i = some j → Go (d + 1) 122 48 [some (.ref 0), some (.int (nI n)), some (.int (nI j)), some (.int (nI n - 1)), none] [] (hM st draft kept isKept tape taped pos begun sort fault wrongAt rows places aheads readings isFound now at_ place rank nounBits verbBits inner table next powers things holding patterns seeded lanes sizes cells) v h') → Go (d + 1) 122 11 [some (.ref 0), some (.int (nI n)), some (.int (nI i - 1)), none, none] [] (hM st draft kept isKept tape taped pos begun sort fault wrongAt rows places aheads readings isFound now at_ place rank nounBits verbBits inner table next powers things holding patterns seeded lanes sizes cells) v h'
  | 0, hi, k1, k2 => b_X9_hasNext_11 (cy (by decide) (cn (by decide) (k1 rfl)))
  | i + 1, hi, k1, k2 => by
    have e0 : nI (i + 1) - 1 = nI i := nI_pred i
    have e1 : nI i + (-1 : Int32) = nI i - 1 := (Int32.sub_eq_add_neg _ _).symm
    have b1 := hd i (by omega)
    have b2 := hd (i + 1) hi
    unfold nx1 at k1 k2
    rw [e0]
    refine b_X9_hasNext_11 (cn (nI_pos (by omega)) ⟨i, rfl, by omega, i + 1, nI_1 i, by omega, pk_le (l.getD i 0) (l.getD (i + 1) 0) (fun q => cy (nI_pos' (by omega)) ?_) (fun q => ?_) (hw i (by omega)) (hw _ hi)⟩)
    · rw [if_neg (by omega)] at k2
      exact k2 i rfl
    · rw [if_pos q] at k1 k2
      rw [e1]
      exact m_hn_11 hn hd hw i (by omega) k1 k2
theorem m_hasNext {d n k : Nat} (hn2 : 2 ≤ n) (hn : n ≤ 4) (hk : k < (rd_perms n).length) {st draft kept isKept tape : Nat → Int32} {taped pos begun sort fault wrongAt : Int32} {rows places aheads : Nat → Int32} {readings isFound : Int32} {now at_ place rank : Nat → Int32} {nounBits verbBits inner table next : Nat → Int64} {powers : Nat → Int32} {things : Int32} {holding patterns : Nat → Int64} {seeded : Int32} {lanes sizes cells : Nat → Int32} (hN : st 0 = nI n) (hw : rw_M n ((rd_perms n).getD k []) now) : ∃ now' : Nat → Int32, Go (d + 1) 122 0 [some (.ref 0), none, none, none, none] [] (hM st draft kept isKept tape taped pos begun sort fault wrongAt rows places aheads readings isFound now at_ place rank nounBits verbBits inner table next powers things holding patterns seeded lanes sizes cells) (some (.int (if k + 1 < (rd_perms n).length then 1 else 0))) (hM st draft kept isKept tape taped pos begun sort fault wrongAt rows places aheads readings isFound now' at_ place rank nounBits verbBits inner table next powers things holding patterns seeded lanes sizes cells) ∧ (k + 1 < (rd_perms n).length → rw_M n ((rd_perms n).getD (k + 1) []) now') := by
  have hmem : (rd_perms n).getD k [] ∈ rd_perms n := by
    rw [List.getD_eq_getElem?_getD, List.getElem?_eq_getElem hk]
    exact List.getElem_mem _
  have hr := rd_row n (by omega) _ hmem
  have hd : ∀ j, j < n → ((rd_perms n).getD k []).getD j 0 < n := fun j hj => (hr.2 j hj).1
  have ok := nx_ok n (by omega) hn2 k hk
  have e2 : nI n - (2 : Int32) = nI (n - 1) - 1 := by
    have h1 : nI n - nI 2 = nI (n - 2) := pk_sub hn2
    have h2 : nI (n - 1) - nI 1 = nI (n - 1 - 1) := pk_sub (by omega)
    show nI n - nI 2 = nI (n - 1) - nI 1
    rw [h1, h2]; congr 1
  have e3 : nI n - (1 : Int32) = nI (n - 1) := pk_sub (a := n) (b := 1) (by omega)
  cases h : nx1 ((rd_perms n).getD k []) (n - 1) with
  | none =>
    rw [h] at ok
    have ok : k + 1 = (rd_perms n).length := of_decide_eq_true ok
    refine ⟨now, b_X9_hasNext_0 ?_, fun q => by omega⟩
    rw [hN, e2]
    exact m_hn_11 hn hd hw (n - 1) (by omega) (fun _ => ⟨by rw [if_neg (by omega)], rfl⟩) (fun j q => by rw [h] at q; cases q)
  | some i =>
    rw [h] at ok
    have ok := of_decide_eq_true ok
    obtain ⟨o1, o2, o3, o4, o5⟩ := ok
    have hb : ∀ (l : List Nat) (a j : Nat), nx2 l a j ≤ j := by
      intro l a j
      induction j with
      | zero => exact Nat.le_refl _
      | succ j ih => unfold nx2; split <;> omega
    have hb2 := hb ((rd_perms n).getD k []) (((rd_perms n).getD k []).getD i 0) (n - 1)
    obtain ⟨now', w, g⟩ := m_hn_78 (d := d) (i := i) hn2 hn (by omega) 4 1 _ (st := st) (draft := draft) (kept := kept) (isKept := isKept) (tape := tape) (taped := taped) (pos := pos) (begun := begun) (sort := sort) (fault := fault) (wrongAt := wrongAt) (rows := rows) (places := places) (aheads := aheads) (readings := readings) (isFound := isFound) (now := (upd (upd now i (now (nx2 ((rd_perms n).getD k []) (((rd_perms n).getD k []).getD i 0) (n - 1)))) (nx2 ((rd_perms n).getD k []) (((rd_perms n).getD k []).getD i 0) (n - 1)) (now i))) (at_ := at_) (place := place) (rank := rank) (nounBits := nounBits) (verbBits := verbBits) (inner := inner) (table := table) (next := next) (powers := powers) (things := things) (holding := holding) (patterns := patterns) (seeded := seeded) (lanes := lanes) (sizes := sizes) (cells := cells) rfl (by omega) (by omega) (by unfold nxs; rw [List.length_set, List.length_set]; exact hr.1) (hw.sw hr.1 (show i < n by omega) (by omega)) (by omega)
    rw [o5] at w
    refine ⟨now', b_X9_hasNext_0 ?_, fun _ => w⟩
    rw [hN, e2, if_pos o1]
    refine m_hn_11 hn hd hw (n - 1) (by omega) (fun q => by rw [h] at q; cases q) (fun j q => ?_)
    rw [h] at q
    cases q
    rw [e3]
    exact m_hn_48 hn o2 hd o3 hw (n - 1) (by omega) (by omega) g
