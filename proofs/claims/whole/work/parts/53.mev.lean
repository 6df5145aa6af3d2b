/-! meaning: the reference's side: a place behind its last phrase; a phrase ahead of a table -/
def nb_M (k : Nat) (F nounBits verbBits : Nat → Int64) : Prop := (∀ i, i < 2 → ∀ t, t < k → nounBits (4 * i + t) = F (i * k + t)) ∧ ∀ i, i < 2 → ∀ t, t < k → ∀ u, u < k → verbBits (16 * i + 4 * t + u) = F (2 * k + (i * k + t) * k + u)
def pw_M (n k : Nat) (powers : Nat → Int32) (things : Int32) : Prop := things = nI k ∧ ∀ p, p ≤ n → powers p = nI (k ^ p)
theorem kpow {n k : Nat} (hk1 : 1 ≤ k) (hk : k ≤ 4) (hn : n ≤ 4) : 1 ≤ k ^ n ∧ k ^ n ≤ 256 := by
  refine ⟨Nat.pow_pos (by omega), ?_⟩
  have h1 : k ^ n ≤ 4 ^ n := Nat.pow_le_pow_left hk n
  have h2 : 4 ^ n ≤ 4 ^ 4 := Nat.pow_le_pow_right (by decide) hn
  omega
theorem dg_lt {k a p : Nat} (hk1 : 1 ≤ k) : dg k a p < k := by
  unfold dg
  split
  · exact Nat.mod_lt _ (by omega)
  · omega
theorem m_th {n k a p : Nat} {powers : Nat → Int32} {things : Int32} (hk1 : 1 ≤ k) (hk : k ≤ 4) (hn : n ≤ 4) (hp : p < n) (ha : a < k ^ n) (P : pw_M n k powers things) : (nI a / powers p) - (nI a / powers p) / things * things = nI (dg k a p) ∧ ¬ powers p = 0 ∧ ¬ things = 0 := by
  have h1 := kpow hk1 hk (show p ≤ 4 by omega)
  have h2 := kpow hk1 hk hn
  have h3 : a / k ^ p ≤ a := Nat.div_le_self _ _
  rw [P.2 p (by omega), P.1, pk_div (by omega) (by omega) (by omega), pk_rem (by omega) (by omega) (by omega)]
  refine ⟨?_, nI_ne0 (by omega) (by omega), nI_ne0 (by omega) (by omega)⟩
  unfold dg
  rw [if_pos (by omega)]
theorem m_atEnd {d n o k a h : Nat} {V : Int32} {Q U W : Nat → Int32} {F : Nat → Int64} (hk1 : 1 ≤ k) (hk : k ≤ 4) (hS : sn_ok n o V Q U W) {st draft kept isKept tape : Nat → Int32} {taped pos begun sort fault wrongAt : Int32} {rows places aheads : Nat → Int32} {readings isFound : Int32} {now at_ place rank : Nat → Int32} {nounBits verbBits inner table next : Nat → Int64} {powers : Nat → Int32} {things : Int32} {holding patterns : Nat → Int64} {seeded : Int32} {lanes sizes cells : Nat → Int32} (mM : sn_M st 0 n o V Q U W) (B : nb_M k F nounBits verbBits) (P : pw_M n k powers things) (hh : h = 4 ∨ h < n) (ha : a < k ^ n) : Go (d + 1) 126 0 [some (.ref 0), some (.int (cv h)), some (.int (nI a)), none, none] [] (hM st draft kept isKept tape taped pos begun sort fault wrongAt rows places aheads readings isFound now at_ place rank nounBits verbBits inner table next powers things holding patterns seeded lanes sizes cells) (some (.long (ev_en n o k V U W F h (dg k a)))) (hM st draft kept isKept tape taped pos begun sort fault wrongAt rows places aheads readings isFound now at_ place rank nounBits verbBits inner table next powers things holding patterns seeded lanes sizes cells) := by
  have hS0 := hS
  obtain ⟨hn2, hn4, ho1, hon, hV, hp⟩ := hS
  have hg : ∀ p, dg k a p < k := fun p => dg_lt hk1
  by_cases h4 : h = 4
  · subst h4
    obtain ⟨v1, v2⟩ := bI_eq hV
    obtain ⟨t0, t1, t2⟩ := m_th hk1 hk hn4 (show 0 < n by omega) ha P
    obtain ⟨s0, s1, s2⟩ := m_th hk1 hk hn4 hon ha P
    have e2 : st 2 = nI (bI V) := by
      have := mM.2.2.1
      rw [Nat.zero_add] at this
      rw [this]; exact v1
    have g0 := hg 0
    have go := hg o
    refine b_X9_atEnd_0 (ny rfl ⟨t1, t2, o, by have := mM.2.1; rw [Nat.zero_add] at this; exact this, by omega, s1, t2, 16 * bI V + 4 * dg k a 0 + dg k a o, ?_, by omega, ?_, rfl⟩)
    · rw [t0, s0, e2]
      show (nI 16 * nI (bI V) + nI 4 * nI (dg k a 0)) + nI (dg k a o) = _
      rw [pk_mul, pk_mul, nI_add, nI_add]
    · unfold ev_en
      rw [if_pos rfl, B.2 _ v2 _ g0 _ go]
  · have hhn : h < n := by omega
    obtain ⟨_, hU, hW⟩ := hp h hhn
    obtain ⟨u1, u2⟩ := bI_eq hU
    have Sp := mM.2.2.2 h hhn
    simp only [Nat.zero_add] at Sp
    obtain ⟨s0, s1, s2, s3, s4⟩ := Sp
    obtain ⟨t0, t1, t2⟩ := m_th hk1 hk hn4 hhn ha P
    have gh := hg h
    rw [cv_lt h4]
    have i1 : ((3 : Int32) + (5 : Int32) * nI h) + (1 : Int32) = nI (4 + 5 * h) := by
      have := ix5 h 1
      rw [show 3 + 5 * h + 1 = 4 + 5 * h by omega] at this
      exact this
    have i3 : ((3 : Int32) + (5 : Int32) * nI h) + (3 : Int32) = nI (6 + 5 * h) := by
      have := ix5 h 3
      rw [show 3 + 5 * h + 3 = 6 + 5 * h by omega] at this
      exact this
    have i4 : ((3 : Int32) + (5 : Int32) * nI h) + (4 : Int32) = nI (7 + 5 * h) := by
      have := ix5 h 4
      rw [show 3 + 5 * h + 4 = 7 + 5 * h by omega] at this
      exact this
    have en : (4 : Int32) * st (4 + 5 * h) + nI (dg k a h) = nI (4 * bI (U h) + dg k a h) := by
      rw [s1]
      have := pk_mul 4 (bI (U h))
      rw [← u1] at this
      show nI 4 * U h + _ = _
      rw [this, nI_add]
    by_cases hgs : h + 1 = o ∨ h + 1 = n
    · rw [if_pos hgs] at s4
      refine b_X9_atEnd_0 (nn (nI_n4 _ (by omega)) ⟨4 + 5 * h, i1, by omega, h, rfl, by omega, t1, t2, 4 * bI (U h) + dg k a h, by rw [t0]; exact en, by omega, 7 + 5 * h, i4, by omega, ny s4 ⟨?_, rfl⟩⟩)
      unfold ev_en
      rw [if_neg h4, if_pos hgs, B.1 _ u2 _ gh]
    · rw [if_neg hgs] at s4 hW
      obtain ⟨w1, w2⟩ := bI_eq hW
      obtain ⟨z0, z1, z2⟩ := m_th hk1 hk hn4 (show h + 1 < n by omega) ha P
      have gz := hg (h + 1)
      have ne4 : ¬ st (7 + 5 * h) = -4 := by rw [s4]; exact nI_n4 _ (by omega)
      refine b_X9_atEnd_0 (nn (nI_n4 _ (by omega)) ⟨4 + 5 * h, i1, by omega, h, rfl, by omega, t1, t2, 4 * bI (U h) + dg k a h, by rw [t0]; exact en, by omega, 7 + 5 * h, i4, by omega, nn ne4 ⟨6 + 5 * h, i3, by omega, h, rfl, by omega, t1, t2, 7 + 5 * h, i4, by omega, h + 1, s4, by omega, z1, t2, 16 * bI (W h) + 4 * dg k a h + dg k a (h + 1), ?_, by omega, ?_, rfl⟩⟩)
      · rw [t0, z0, s3]
        have := pk_mul 16 (bI (W h))
        rw [← w1] at this
        show (nI 16 * W h + nI 4 * nI (dg k a h)) + nI (dg k a (h + 1)) = _
        rw [this, pk_mul, nI_add, nI_add]
      · unfold ev_en
        rw [if_neg h4, if_neg hgs, B.1 _ u2 _ gh, B.2 _ w2 _ gh _ gz]
theorem m_quantified {d n o k a x : Nat} {V : Int32} {Q U W : Nat → Int32} (hk1 : 1 ≤ k) (hk : k ≤ 4) (hS : sn_ok n o V Q U W) {st draft kept isKept tape : Nat → Int32} {taped pos begun sort fault wrongAt : Int32} {rows places aheads : Nat → Int32} {readings isFound : Int32} {now at_ place rank : Nat → Int32} {nounBits verbBits inner table next : Nat → Int64} {powers : Nat → Int32} {things : Int32} {holding patterns : Nat → Int64} {seeded : Int32} {lanes sizes cells : Nat → Int32} (mM : sn_M st 0 n o V Q U W) (P : pw_M n k powers things) (hx : x < n) (ha : a < k ^ n) : Go (d + 1) 127 0 [some (.ref 0), some (.int (nI x)), some (.int (nI a)), none, none, none, none, none, none, none, none, none, none, none] [] (hM st draft kept isKept tape taped pos begun sort fault wrongAt rows places aheads readings isFound now at_ place rank nounBits verbBits inner table next powers things holding patterns seeded lanes sizes cells) (some (.long (qt (Q x) (qt_st (fun t => inner (256 * x + (a - dg k a x * k ^ x + t * k ^ x))) (fun t => table (a - dg k a x * k ^ x + t * k ^ x)) k)))) (hM st draft kept isKept tape taped pos begun sort fault wrongAt rows places aheads readings isFound now at_ place rank nounBits verbBits inner table next powers things holding patterns seeded lanes sizes cells) := by
  obtain ⟨hn2, hn4, ho1, hon, hV, hp⟩ := hS
  obtain ⟨t0, t1, t2⟩ := m_th hk1 hk hn4 hx ha P
  have hd : dg k a x = a / k ^ x % k := by unfold dg; rw [if_pos (by omega)]
  obtain ⟨l1, l2⟩ := dg_lt1 (show k < 5 by omega) hk1 (show n < 5 by omega) ha hx
  rw [← hd] at l1 l2
  have hkn := kpow hk1 hk hn4
  have hq := hp x hx
  have s0 := (mM.2.2.2 x hx).1
  rw [Nat.zero_add] at s0
  obtain ⟨gd, hgd⟩ : ∃ gd : Nat → Int64, gd = fun t => inner (256 * x + (a - dg k a x * k ^ x + t * k ^ x)) := ⟨_, rfl⟩
  obtain ⟨rs, hrs⟩ : ∃ rs : Nat → Int64, rs = fun t => table (a - dg k a x * k ^ x + t * k ^ x) := ⟨_, rfl⟩
  rw [← hgd, ← hrs]
  have loop : ∀ (m t : Nat), t + m = k → Go (d + 1) 127 30 [some (.ref 0), some (.int (nI x)), none, some (.long (qt_st gd rs t).1), none, some (.long (qt_st gd rs t).2.1), none, some (.long (qt_st gd rs t).2.2), none, some (.int (nI (a - dg k a x * k ^ x))), some (.int (nI t)), none, none, none] [] (hM st draft kept isKept tape taped pos begun sort fault wrongAt rows places aheads readings isFound now at_ place rank nounBits verbBits inner table next powers things holding patterns seeded lanes sizes cells) (some (.long (qt (Q x) (qt_st gd rs k)))) (hM st draft kept isKept tape taped pos begun sort fault wrongAt rows places aheads readings isFound now at_ place rank nounBits verbBits inner table next powers things holding patterns seeded lanes sizes cells) := by
    intro m
    induction m with
    | zero =>
      intro t ht
      have : t = k := by omega
      subst this
      refine b_X9_quantified_30 (pk_le t t (fun _ => ⟨3 + 5 * x, ix5 x 0, by omega, ?_⟩) (fun z => by omega) P.1)
      rw [s0]
      unfold qt
      refine ⟨fun q1 => ⟨fun q2 => ⟨fun q3 => ⟨by rw [if_neg q1, if_neg q2, if_neg q3], rfl⟩, fun q3 => ⟨by rw [if_neg q1, if_neg q2, if_pos q3], rfl⟩⟩, fun q2 => ⟨by rw [if_neg q1, if_pos q2], rfl⟩⟩, fun q1 => ⟨by rw [if_pos q1], rfl⟩⟩
    | succ m ih =>
      intro t ht
      have lt := l2 t (by omega)
      have e1 : nI (a - dg k a x * k ^ x) + nI t * powers x = nI (a - dg k a x * k ^ x + t * k ^ x) := by rw [P.2 x (by omega), pk_mul, nI_add]
      have e2 : (256 : Int32) * nI x + (nI (a - dg k a x * k ^ x) + nI t * powers x) = nI (256 * x + (a - dg k a x * k ^ x + t * k ^ x)) := by
        rw [e1]
        show nI 256 * nI x + _ = _
        rw [pk_mul, nI_add]
      have ih := ih (t + 1) (by omega)
      rw [qt_s1, qt_s2, qt_s3] at ih
      refine b_X9_quantified_30 (pk_le k t (fun z => by omega) (fun _ => ⟨x, rfl, by omega, _, e2, by omega, _, e1, by omega, _, e1, by omega, _, e1, by omega, ?_⟩) P.1)
      rw [nI_1]
      have hg : inner (256 * x + (a - dg k a x * k ^ x + t * k ^ x)) = gd t := by rw [hgd]
      have hr : table (a - dg k a x * k ^ x + t * k ^ x) = rs t := by rw [hrs]
      rw [hg, hr]
      exact ih
  have l0 := loop k 0 (by omega)
  rw [qt_01, qt_02, qt_03] at l0
  refine b_X9_quantified_0 ⟨x, rfl, by omega, t1, t2, x, rfl, by omega, ?_⟩
  have eb : nI a - (((nI a / powers x) - (nI a / powers x) / things * things) * powers x) = nI (a - dg k a x * k ^ x) := by
    rw [t0, P.2 x (by omega), pk_mul, pk_sub l1]
  rw [eb]
  exact l0
