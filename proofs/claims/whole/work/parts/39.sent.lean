/-! the sentence: phrase, becomes -/
theorem cy {P A B : Prop} (h : P) (a : A) : (P → A) ∧ (¬ P → B) := ⟨fun _ => a, fun q => absurd h q⟩
theorem cn {P A B : Prop} (h : ¬ P) (b : B) : (P → A) ∧ (¬ P → B) := ⟨fun q => absurd q h, fun _ => b⟩
theorem ny {P A B : Prop} (h : P) (a : A) : (¬ P → B) ∧ (P → A) := ⟨fun q => absurd h q, fun _ => a⟩
theorem nn {P A B : Prop} (h : ¬ P) (b : B) : (¬ P → B) ∧ (P → A) := ⟨fun _ => b, fun q => absurd q h⟩
/-- both sides' sentence; the reference's from place b of a row on -/
def sn_S (n o : Nat) (N O V : Int32) (Q U W : Nat → Int32) (st : Nat → Int32) (b : Nat) : Prop := sn_ok n o V Q U W ∧ N = nI n ∧ O = nI o ∧ sn_M st b n o V Q U W
theorem sn_ok.w4 {n o : Nat} {V : Int32} {Q U W : Nat → Int32} (h : sn_ok n o V Q U W) {p : Nat} (hp : p < n) : W p = -4 ↔ (p + 1 = o ∨ p + 1 = n) := by
  obtain ⟨_, _, _, _, _, h⟩ := h
  have := (h p hp).2.2
  by_cases q : p + 1 = o ∨ p + 1 = n
  · rw [if_pos q] at this
    exact ⟨fun _ => q, fun _ => this⟩
  · rw [if_neg q] at this
    refine ⟨fun z => ?_, fun z => absurd z q⟩
    rw [z] at this
    rcases this with w | w <;> exact absurd w (by decide)
theorem m_hostsOver_l {d n o : Nat} {V : Int32} {Q U W : Nat → Int32} (hn : n ≤ 4) (ho : o < n) {st draft kept isKept tape : Nat → Int32} {taped pos begun sort fault wrongAt : Int32} {rows places aheads : Nat → Int32} {readings isFound : Int32} {now at_ place rank : Nat → Int32} {nounBits verbBits inner table next : Nat → Int64} {powers : Nat → Int32} {things : Int32} {holding patterns : Nat → Int64} {seeded : Int32} {lanes sizes cells : Nat → Int32} (S : sn_M st 0 n o V Q U W) : ∀ (p c : Nat), p < n → Go (d + 1) 144 9 [some (.ref 0), none, some (.int (nI c)), some (.int (if p = 0 ∨ p = o then -4 else nI (p - 1)))] [] (hM st draft kept isKept tape taped pos begun sort fault wrongAt rows places aheads readings isFound now at_ place rank nounBits verbBits inner table next powers things holding patterns seeded lanes sizes cells) (some (.int (nI (c + (if p < o then p else p - o))))) (hM st draft kept isKept tape taped pos begun sort fault wrongAt rows places aheads readings isFound now at_ place rank nounBits verbBits inner table next powers things holding patterns seeded lanes sizes cells)
  | 0, c, hp => b_X9_hostsOver_9 ⟨fun _ => ⟨by simp, rfl⟩, fun q => absurd (by simp) q⟩
  | p + 1, c, hp => by
    by_cases hpo : p + 1 = o
    · subst hpo
      exact b_X9_hostsOver_9 ⟨fun _ => ⟨by simp, rfl⟩, fun q => absurd (by simp) q⟩
    · have h1 : ¬ (p + 1 = 0 ∨ p + 1 = o) := by omega
      rw [if_neg h1, Nat.add_sub_cancel]
      have e1 : ((3 : Int32) + (5 : Int32) * nI p) + (2 : Int32) = nI (5 + 5 * p) := by
        show (nI 3 + nI 5 * nI p) + nI 2 = _
        rw [pk_mul, nI_add, nI_add]
        congr 1; omega
      have e2 : st (5 + 5 * p) = if p = 0 ∨ p = o then -4 else nI (p - 1) := by
        have := (S.2.2.2 p (by omega)).2.2.1
        rwa [Nat.zero_add] at this
      have hne : ¬ nI p = (-4 : Int32) := by
        have : ∀ p, p < 4 → ¬ nI p = (-4 : Int32) := by decide +kernel
        exact this p (by omega)
      refine b_X9_hostsOver_9 (cn hne ⟨5 + 5 * p, e1, by omega, ?_⟩)
      rw [e2, nI_1]
      have := m_hostsOver_l (d := d) hn ho (st := st) (draft := draft) (kept := kept) (isKept := isKept) (tape := tape) (taped := taped) (pos := pos) (begun := begun) (sort := sort) (fault := fault) (wrongAt := wrongAt) (rows := rows) (places := places) (aheads := aheads) (readings := readings) (isFound := isFound) (now := now) (at_ := at_) (place := place) (rank := rank) (nounBits := nounBits) (verbBits := verbBits) (inner := inner) (table := table) (next := next) (powers := powers) (things := things) (holding := holding) (patterns := patterns) (seeded := seeded) (lanes := lanes) (sizes := sizes) (cells := cells) S p (c + 1) (by omega)
      have e3 : c + 1 + (if p < o then p else p - o) = c + (if p + 1 < o then p + 1 else p + 1 - o) := by
        by_cases a : p < o
        · rw [if_pos a, if_pos (by omega)]; omega
        · rw [if_neg a, if_neg (by omega)]; omega
      rw [e3] at this
      exact this
theorem l_phrase {d n o : Nat} {tN : Int32} {tB : Nat → Int32} {pF pA pT pB dN dO dV dZ : Int32} {dQ dU dW : Nat → Int32} {sN sO sV sZ : Int32} {sQ sU sW : Nat → Int32} {rN : Int32} {rP rK rF rR rT rL rQ : Nat → Int32} {mS : Int32} {mT : Nat → Int64} {mK : Nat → Int32} {mF : Nat → Int64} {mG m1 m2 : Nat → Int32} {wN : Int32} {wF : Int64} {yN : Int32} {yF : Int64} {iK eN eO eV eZ : Int32} {eQ eU eW : Nat → Int32} {eS : Int32} {eB : Int64} {jK fN fO fV fZ : Int32} {fQ fU fW : Nat → Int32} {fS : Int32} {fB : Int64} {h0N h0L : Int32} {h0C : Nat → Int32} {h1N h1L : Int32} {h1C : Nat → Int32} {h2N h2L : Int32} {h2C : Nat → Int32} {h3N h3L : Int32} {h3C : Nat → Int32} {st draft kept isKept tape : Nat → Int32} {taped pos begun sort fault wrongAt : Int32} {rows places aheads : Nat → Int32} {readings isFound : Int32} {now at_ place rank : Nat → Int32} {nounBits verbBits inner table next : Nat → Int64} {powers : Nat → Int32} {things : Int32} {holding patterns : Nat → Int64} {seeded : Int32} {lanes sizes cells : Nat → Int32} {p0 p1 : Int32} (S : sn_S n o sN sO sV sQ sU sW st 0) : ∃ v : Int32, Go (d + 1) 61 0 [some (.ref 0), some (.int p0), some (.int p1)] [] (hX tN tB pF pA pT pB dN dO dV dZ dQ dU dW sN sO sV sZ sQ sU sW rN rP rK rF rR rT rL rQ mS mT mK mF mG m1 m2 wN wF yN yF iK eN eO eV eZ eQ eU eW eS eB jK fN fO fV fZ fQ fU fW fS fB h0N h0L h0C h1N h1L h1C h2N h2L h2C h3N h3L h3C) (some (.int v)) (hX tN tB pF pA pT pB dN dO dV dZ dQ dU dW sN sO sV sZ sQ sU sW rN rP rK rF rR rT rL rQ mS mT mK mF mG m1 m2 wN wF yN yF iK eN eO eV eZ eQ eU eW eS eB jK fN fO fV fZ fQ fU fW fS fB h0N h0L h0C h1N h1L h1C h2N h2L h2C h3N h3L h3C) ∧ Go (d + 2) 145 0 [some (.ref 0), some (.int p0), some (.int p1)] [] (hM st draft kept isKept tape taped pos begun sort fault wrongAt rows places aheads readings isFound now at_ place rank nounBits verbBits inner table next powers things holding patterns seeded lanes sizes cells) (some (.int v)) (hM st draft kept isKept tape taped pos begun sort fault wrongAt rows places aheads readings isFound now at_ place rank nounBits verbBits inner table next powers things holding patterns seeded lanes sizes cells) := by
  obtain ⟨hok, rfl, rfl, hM⟩ := S
  have ⟨hn2, hn4, ho1, hon, _, _⟩ := hok
  rcases i_rng p0 (k := n) (by omega) (by omega) with ⟨a1, a2⟩ | ⟨p, hp, rfl, a1, a2⟩
  · rw [← hM.1] at a2
    exact ⟨-1, b_X8_phrase_0 (cn a1 ⟨rfl, rfl⟩), b_X9_phrase_0 (nn a2 ⟨rfl, rfl⟩)⟩
  rw [← hM.1] at a2
  have hp4 : p < 4 := by omega
  have Sp := hM.2.2.2 p hp
  simp only [Nat.zero_add] at Sp
  obtain ⟨s0, s1, s2, s3, s4⟩ := Sp
  have ei : ∀ k : Nat, ((3 : Int32) + (5 : Int32) * nI p) + nI k = nI (3 + 5 * p + k) := fun k => by
    show (nI 3 + nI 5 * nI p) + nI k = _
    rw [pk_mul, nI_add, nI_add]
  rcases i_rng p1 (k := 6) (by decide) (by decide) with ⟨c1, c2⟩ | ⟨w, hw, rfl, c1, c2⟩
  · refine ⟨-1, b_X8_phrase_0 (cy a1 ⟨fun q => absurd (by rw [q]; decide) c1, fun q => absurd (by rw [q]; decide) c1, fun q => absurd (by rw [q]; decide) c1, fun q => absurd (by rw [q]; decide) c1, fun q => absurd (by rw [q]; decide) c1, fun q => absurd (by rw [q]; decide) c1, fun _ _ _ _ _ _ => ⟨rfl, rfl⟩⟩), b_X9_phrase_0 (ny a2 (cn c2 ⟨rfl, rfl⟩))⟩
  have hw6 : w = 0 ∨ w = 1 ∨ w = 2 ∨ w = 3 ∨ w = 4 ∨ w = 5 := by omega
  rcases hw6 with rfl | rfl | rfl | rfl | rfl | rfl
  · exact ⟨sQ p, b_X8_phrase_0 (cy a1 ⟨fun _ => ⟨p, rfl, hp4, rfl, rfl⟩, fun q => absurd q (by decide), fun q => absurd q (by decide), fun q => absurd q (by decide), fun q => absurd q (by decide), fun q => absurd q (by decide), fun q => absurd rfl q⟩), b_X9_phrase_0 (ny a2 (cy c2 (nn (by decide) ⟨_, ei 0, by omega, by rw [← s0]; rfl, rfl⟩)))⟩
  · exact ⟨sU p, b_X8_phrase_0 (cy a1 ⟨fun q => absurd q (by decide), fun _ => ⟨p, rfl, hp4, rfl, rfl⟩, fun q => absurd q (by decide), fun q => absurd q (by decide), fun q => absurd q (by decide), fun q => absurd q (by decide), fun _ q => absurd rfl q⟩), b_X9_phrase_0 (ny a2 (cy c2 (nn (by decide) ⟨_, ei 1, by omega, by rw [← s1, show 3 + 5 * p + 1 = 4 + 5 * p by omega], rfl⟩)))⟩
  · refine ⟨if p = 0 ∨ p = o then -4 else nI (p - 1), b_X8_phrase_0 (cy a1 ⟨fun q => absurd q (by decide), fun q => absurd q (by decide), fun _ => ⟨_, ?_, rfl, rfl⟩, fun q => absurd q (by decide), fun q => absurd q (by decide), fun q => absurd q (by decide), fun _ _ q => absurd rfl q⟩), b_X9_phrase_0 (ny a2 (cy c2 (nn (by decide) ⟨_, ei 2, by omega, by rw [← s2, show 3 + 5 * p + 2 = 5 + 5 * p by omega], rfl⟩)))⟩
    refine b_X4_hostOf_0 (pk_eq p 0 (fun q => ⟨by rw [if_pos (Or.inl q)], rfl⟩) (fun q => ⟨fun r => ⟨?_, rfl⟩, fun r => ⟨?_, rfl⟩⟩))
    · rw [nI_eq (by omega) (by omega)] at r
      rw [if_neg (by omega)]
      have : nI p - (1 : Int32) = nI (p - 1) := pk_sub (a := p) (b := 1) (by omega)
      rw [this]
    · rw [nI_eq (by omega) (by omega)] at r
      rw [if_pos (Or.inr r)]
  · exact ⟨sW p, b_X8_phrase_0 (cy a1 ⟨fun q => absurd q (by decide), fun q => absurd q (by decide), fun q => absurd q (by decide), fun _ => ⟨p, rfl, hp4, rfl, rfl⟩, fun q => absurd q (by decide), fun q => absurd q (by decide), fun _ _ _ q => absurd rfl q⟩), b_X9_phrase_0 (ny a2 (cy c2 (nn (by decide) ⟨_, ei 3, by omega, by rw [← s3, show 3 + 5 * p + 3 = 6 + 5 * p by omega], rfl⟩)))⟩
  · refine ⟨if p + 1 = o ∨ p + 1 = n then -4 else nI (p + 1), b_X8_phrase_0 (cy a1 ⟨fun q => absurd q (by decide), fun q => absurd q (by decide), fun q => absurd q (by decide), fun q => absurd q (by decide), fun _ => ⟨_, b_X4_guestOf_0 ⟨p, rfl, hp4, fun q => ⟨?_, rfl⟩, fun q => ⟨?_, rfl⟩⟩, rfl, rfl⟩, fun q => absurd q (by decide), fun _ _ _ _ q => absurd rfl q⟩), b_X9_phrase_0 (ny a2 (cy c2 (nn (by decide) ⟨_, ei 4, by omega, by rw [← s4, show 3 + 5 * p + 4 = 7 + 5 * p by omega], rfl⟩)))⟩
    · rw [hok.w4 hp] at q
      rw [if_neg q, nI_1]
    · rw [hok.w4 hp] at q
      rw [if_pos q]
  · refine ⟨nI (0 + (if p < o then p else p - o)), b_X8_phrase_0 (cy a1 ⟨fun q => absurd q (by decide), fun q => absurd q (by decide), fun q => absurd q (by decide), fun q => absurd q (by decide), fun q => absurd q (by decide), fun _ => ⟨_, b_X4_hostsOver_0 (pk_le o p (fun q => ⟨?_, rfl⟩) (fun q => ⟨?_, rfl⟩)), rfl, rfl⟩, fun _ _ _ _ _ q => absurd rfl q⟩), b_X9_phrase_0 (ny a2 (cy c2 (ny (by decide) ⟨_, b_X9_hostsOver_0 ⟨5 + 5 * p, ?_, by omega, ?_⟩, rfl, rfl⟩)))⟩
    · rw [if_neg (by omega), pk_sub q, Nat.zero_add]
    · rw [if_pos q, Nat.zero_add]
    · rw [show (2 : Int32) = nI 2 from rfl, ei 2]
      congr 1; omega
    · rw [s2]
      exact m_hostsOver_l hn4 hon hM p 0 hp
theorem x_forget {d : Nat} {tN : Int32} {tB : Nat → Int32} {pF pA pT pB dN dO dV dZ : Int32} {dQ dU dW : Nat → Int32} {sN sO sV sZ : Int32} {sQ sU sW : Nat → Int32} {rN : Int32} {rP rK rF rR rT rL rQ : Nat → Int32} {mS : Int32} {mT : Nat → Int64} {mK : Nat → Int32} {mF : Nat → Int64} {mG m1 m2 : Nat → Int32} {wN : Int32} {wF : Int64} {yN : Int32} {yF : Int64} {iK eN eO eV eZ : Int32} {eQ eU eW : Nat → Int32} {eS : Int32} {eB : Int64} {jK fN fO fV fZ : Int32} {fQ fU fW : Nat → Int32} {fS : Int32} {fB : Int64} {h0N h0L : Int32} {h0C : Nat → Int32} {h1N h1L : Int32} {h1C : Nat → Int32} {h2N h2L : Int32} {h2C : Nat → Int32} {h3N h3L : Int32} {h3C : Nat → Int32} : ∃ mK' : Nat → Int32, (∀ r, r < 24 → mK' r = 0) ∧ Go d 2 0 [some (.ref 20), none] [] (hX tN tB pF pA pT pB dN dO dV dZ dQ dU dW sN sO sV sZ sQ sU sW rN rP rK rF rR rT rL rQ mS mT mK mF mG m1 m2 wN wF yN yF iK eN eO eV eZ eQ eU eW eS eB jK fN fO fV fZ fQ fU fW fS fB h0N h0L h0C h1N h1L h1C h2N h2L h2C h3N h3L h3C) none (hX tN tB pF pA pT pB dN dO dV dZ dQ dU dW sN sO sV sZ sQ sU sW rN rP rK rF rR rT rL rQ mS mT mK' mF mG m1 m2 wN wF yN yF iK eN eO eV eZ eQ eU eW eS eB jK fN fO fV fZ fQ fU fW fS fB h0N h0L h0C h1N h1L h1C h2N h2L h2C h3N h3L h3C) := by
  refine ⟨_, ?_, b_X1_forget_0 ⟨rfl, rfl⟩⟩
  have z : vp_nar .boolean (0 : Int32) = 0 := rfl
  rw [z]
  intro r hr
  match r, hr with
  | 0, _ => exact rfl
  | 1, _ => exact rfl
  | 2, _ => exact rfl
  | 3, _ => exact rfl
  | 4, _ => exact rfl
  | 5, _ => exact rfl
  | 6, _ => exact rfl
  | 7, _ => exact rfl
  | 8, _ => exact rfl
  | 9, _ => exact rfl
  | 10, _ => exact rfl
  | 11, _ => exact rfl
  | 12, _ => exact rfl
  | 13, _ => exact rfl
  | 14, _ => exact rfl
  | 15, _ => exact rfl
  | 16, _ => exact rfl
  | 17, _ => exact rfl
  | 18, _ => exact rfl
  | 19, _ => exact rfl
  | 20, _ => exact rfl
  | 21, _ => exact rfl
  | 22, _ => exact rfl
  | 23, _ => exact rfl
  | k + 24, h => exact absurd h (by omega)
