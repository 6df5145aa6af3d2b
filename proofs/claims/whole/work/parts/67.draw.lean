/-! structureChanged, draw -/
theorem x_struct {d n o : Nat} (hn2 : 2 ≤ n) (hn : n ≤ 4) (ho : o < n) {tN : Int32} {tB : Nat → Int32} {pF pA pT pB dN dO dV dZ : Int32} {dQ dU dW : Nat → Int32} {sN sO sV sZ : Int32} {sQ sU sW : Nat → Int32} {rN : Int32} {rP rK rF rR rT rL rQ : Nat → Int32} {mS : Int32} {mT : Nat → Int64} {mK : Nat → Int32} {mF : Nat → Int64} {mG m1 m2 : Nat → Int32} {wN : Int32} {wF : Int64} {yN : Int32} {yF : Int64} {iK eN eO eV eZ : Int32} {eQ eU eW : Nat → Int32} {eS : Int32} {eB : Int64} {jK fN fO fV fZ : Int32} {fQ fU fW : Nat → Int32} {fS : Int32} {fB : Int64} {h0N h0L : Int32} {h0C : Nat → Int32} {h1N h1L : Int32} {h1C : Nat → Int32} {h2N h2L : Int32} {h2C : Nat → Int32} {h3N h3L : Int32} {h3C : Nat → Int32} (hN : sN = nI n) (hO : sO = nI o) : ∃ (rN1 : Int32) (rP1 : Nat → Int32) (rK1 : Nat → Int32) (rF1 : Nat → Int32) (rR1 : Nat → Int32) (rT1 : Nat → Int32) (rL1 : Nat → Int32) (rQ1 : Nat → Int32) (mK1 : Nat → Int32), tb_X n o (rd_RD n o) rN1 rP1 rK1 rF1 ∧ (∀ r, r < 24 → mK1 r = 0) ∧ Go (d + 4) 92 0 [some (.ref 0)] [] (hX tN tB pF pA pT pB dN dO dV dZ dQ dU dW sN sO sV sZ sQ sU sW rN rP rK rF rR rT rL rQ mS mT mK mF mG m1 m2 wN wF yN yF iK eN eO eV eZ eQ eU eW eS eB jK fN fO fV fZ fQ fU fW fS fB h0N h0L h0C h1N h1L h1C h2N h2L h2C h3N h3L h3C) none (hX tN tB pF pA pT pB dN dO dV dZ dQ dU dW sN sO sV sZ sQ sU sW rN1 rP1 rK1 rF1 rR1 rT1 rL1 rQ1 mS mT mK1 mF mG m1 m2 wN wF yN yF iK eN eO eV eZ eQ eU eW eS eB jK fN fO fV fZ fQ fU fW fS fB h0N h0L h0C h1N h1L h1C h2N h2L h2C h3N h3L h3C) := by
  obtain ⟨rN1, rP1, rK1, rF1, rR1, rT1, rL1, rQ1, t, g⟩ := x_list (d := d) hn2 hn ho (tN := tN) (tB := tB) (pF := pF) (pA := pA) (pT := pT) (pB := pB) (dN := dN) (dO := dO) (dV := dV) (dZ := dZ) (dQ := dQ) (dU := dU) (dW := dW) (sN := sN) (sO := sO) (sV := sV) (sZ := sZ) (sQ := sQ) (sU := sU) (sW := sW) (rN := rN) (rP := rP) (rK := rK) (rF := rF) (rR := rR) (rT := rT) (rL := rL) (rQ := rQ) (mS := mS) (mT := mT) (mK := mK) (mF := mF) (mG := mG) (m1 := m1) (m2 := m2) (wN := wN) (wF := wF) (yN := yN) (yF := yF) (iK := iK) (eN := eN) (eO := eO) (eV := eV) (eZ := eZ) (eQ := eQ) (eU := eU) (eW := eW) (eS := eS) (eB := eB) (jK := jK) (fN := fN) (fO := fO) (fV := fV) (fZ := fZ) (fQ := fQ) (fU := fU) (fW := fW) (fS := fS) (fB := fB) (h0N := h0N) (h0L := h0L) (h0C := h0C) (h1N := h1N) (h1L := h1L) (h1C := h1C) (h2N := h2N) (h2L := h2L) (h2C := h2C) (h3N := h3N) (h3L := h3L) (h3C := h3C) hN hO
  obtain ⟨mK1, f1, f2⟩ := x_forget (d := d + 3) (tN := tN) (tB := tB) (pF := pF) (pA := pA) (pT := pT) (pB := pB) (dN := dN) (dO := dO) (dV := dV) (dZ := dZ) (dQ := dQ) (dU := dU) (dW := dW) (sN := sN) (sO := sO) (sV := sV) (sZ := sZ) (sQ := sQ) (sU := sU) (sW := sW) (rN := rN1) (rP := rP1) (rK := rK1) (rF := rF1) (rR := rR1) (rT := rT1) (rL := rL1) (rQ := rQ1) (mS := mS) (mT := mT) (mK := mK) (mF := mF) (mG := mG) (m1 := m1) (m2 := m2) (wN := wN) (wF := wF) (yN := yN) (yF := yF) (iK := iK) (eN := eN) (eO := eO) (eV := eV) (eZ := eZ) (eQ := eQ) (eU := eU) (eW := eW) (eS := eS) (eB := eB) (jK := jK) (fN := fN) (fO := fO) (fV := fV) (fZ := fZ) (fQ := fQ) (fU := fU) (fW := fW) (fS := fS) (fB := fB) (h0N := h0N) (h0L := h0L) (h0C := h0C) (h1N := h1N) (h1L := h1L) (h1C := h1C) (h2N := h2N) (h2L := h2L) (h2C := h2C) (h3N := h3N) (h3L := h3L) (h3C := h3C)
  exact ⟨rN1, rP1, rK1, rF1, rR1, rT1, rL1, rQ1, mK1, t, f1, b_X8_structureChanged_0 ⟨rN1, rP1, rK1, rF1, rR1, rT1, rL1, rQ1, g, mK1, f2, rfl, rfl⟩⟩
/-- the seed, and what is got of it -/
def nz (z : Int32) : Int32 := z * (Int32.ofNat 1103515245) + (12345 : Int32)
def gv (z : Int32) : Int32 := ((z.toUInt32 >>> (((16 : Int32)).toUInt32 &&& Int32.toUInt32 31)).toInt32) &&& (32767 : Int32)
theorem gv_m (z : Int32) : (z >>> ((16 : Int32) &&& 31)) &&& (32767 : Int32) = gv z := by
  unfold gv
  rw [pk_and (z >>> ((16 : Int32) &&& 31)) (m := 32767) 15 (by decide), pk_and ((z.toUInt32 >>> (((16 : Int32)).toUInt32 &&& Int32.toUInt32 31)).toInt32) (m := 32767) 15 (by decide), pk_ushr z 16 16 (by decide)]
  congr 1
  apply Nat.eq_of_testBit_eq
  intro i
  rw [Nat.testBit_mod_two_pow, Nat.testBit_mod_two_pow, Nat.testBit_div_two_pow]
  by_cases hi : i < 15
  · have h1 : (z >>> ((16 : Int32) &&& 31)).toBitVec = z.toBitVec.sshiftRight 16 := by
      rw [Int32.toBitVec_shiftRight, BitVec.sshiftRight_eq']
      congr 1
    rw [BitVec.testBit_toNat, BitVec.testBit_toNat, h1, BitVec.getLsbD_sshiftRight, Nat.add_comm 16 i]
    have h2 : i + 16 < 32 := by omega
    have h3 : ¬ 32 ≤ i := by omega
    simp [h2, h3]
  · simp [hi]
theorem gv_nat (z : Int32) : ∃ g : Nat, g < 32768 ∧ gv z = nI g := by
  unfold gv
  obtain ⟨j, hj, e⟩ := pk_andE ((z.toUInt32 >>> (((16 : Int32)).toUInt32 &&& Int32.toUInt32 31)).toInt32) (m := 32767) 15 (by decide)
  exact ⟨j, hj, e⟩
theorem x_got {d : Nat} {tN : Int32} {tB : Nat → Int32} {pF pA pT pB dN dO dV dZ : Int32} {dQ dU dW : Nat → Int32} {sN sO sV sZ : Int32} {sQ sU sW : Nat → Int32} {rN : Int32} {rP rK rF rR rT rL rQ : Nat → Int32} {mS : Int32} {mT : Nat → Int64} {mK : Nat → Int32} {mF : Nat → Int64} {mG m1 m2 : Nat → Int32} {wN : Int32} {wF : Int64} {yN : Int32} {yF : Int64} {iK eN eO eV eZ : Int32} {eQ eU eW : Nat → Int32} {eS : Int32} {eB : Int64} {jK fN fO fV fZ : Int32} {fQ fU fW : Nat → Int32} {fS : Int32} {fB : Int64} {h0N h0L : Int32} {h0C : Nat → Int32} {h1N h1L : Int32} {h1C : Nat → Int32} {h2N h2L : Int32} {h2C : Nat → Int32} {h3N h3L : Int32} {h3C : Nat → Int32} : Go d 40 0 [some (.ref 8)] [] (hX tN tB pF pA pT pB dN dO dV dZ dQ dU dW sN sO sV sZ sQ sU sW rN rP rK rF rR rT rL rQ mS mT mK mF mG m1 m2 wN wF yN yF iK eN eO eV eZ eQ eU eW eS eB jK fN fO fV fZ fQ fU fW fS fB h0N h0L h0C h1N h1L h1C h2N h2L h2C h3N h3L h3C) (some (.int (gv (nz sZ)))) (hX tN tB pF pA pT pB dN dO dV dZ dQ dU dW sN sO sV (nz sZ) sQ sU sW rN rP rK rF rR rT rL rQ mS mT mK mF mG m1 m2 wN wF yN yF iK eN eO eV eZ eQ eU eW eS eB jK fN fO fV fZ fQ fU fW fS fB h0N h0L h0C h1N h1L h1C h2N h2L h2C h3N h3L h3C) := b_X4_got_0 ⟨rfl, rfl⟩
theorem m_gets {d : Nat} {st draft kept isKept tape : Nat → Int32} {taped pos begun sort fault wrongAt : Int32} {rows places aheads : Nat → Int32} {readings isFound : Int32} {now at_ place rank : Nat → Int32} {nounBits verbBits inner table next : Nat → Int64} {powers : Nat → Int32} {things : Int32} {holding patterns : Nat → Int64} {seeded : Int32} {lanes sizes cells : Nat → Int32} : Go d 147 0 [some (.ref 0)] [] (hM st draft kept isKept tape taped pos begun sort fault wrongAt rows places aheads readings isFound now at_ place rank nounBits verbBits inner table next powers things holding patterns seeded lanes sizes cells) (some (.int (gv (nz seeded)))) (hM st draft kept isKept tape taped pos begun sort fault wrongAt rows places aheads readings isFound now at_ place rank nounBits verbBits inner table next powers things holding patterns (nz seeded) lanes sizes cells) := b_X9_gets_0 ⟨by rw [← gv_m]; rfl, rfl⟩
theorem gv_4 (z : Int32) : (gv z - gv z / 4 * 4 = 0 ∨ gv z - gv z / 4 * 4 = 1 ∨ gv z - gv z / 4 * 4 = 2 ∨ gv z - gv z / 4 * 4 = 3) := by
  obtain ⟨g, hg, e⟩ := gv_nat z
  have : nI g - nI g / (4 : Int32) * (4 : Int32) = nI (g % 4) := pk_rem (a := g) (d := 4) (by omega) (by decide) (by decide)
  rw [e, this]
  have h : g % 4 = 0 ∨ g % 4 = 1 ∨ g % 4 = 2 ∨ g % 4 = 3 := by omega
  rcases h with h | h | h | h <;> rw [h] <;> decide
theorem gv_2 (z : Int32) : (gv z - gv z / 2 * 2 = 0 ∨ gv z - gv z / 2 * 2 = 1) := by
  obtain ⟨g, hg, e⟩ := gv_nat z
  have : nI g - nI g / (2 : Int32) * (2 : Int32) = nI (g % 2) := pk_rem (a := g) (d := 2) (by omega) (by decide) (by decide)
  rw [e, this]
  have h : g % 2 = 0 ∨ g % 2 = 1 := by omega
  rcases h with h | h <;> rw [h] <;> decide
/-- phrases drawn, from B on, c of them in all, another to come: the last has a verb -/
def dr_H (B c : Nat) (Q U W st : Nat → Int32) : Prop := (∀ p, B ≤ p → p < c → (Q p = 0 ∨ Q p = 1 ∨ Q p = 2 ∨ Q p = 3) ∧ (U p = 0 ∨ U p = 1) ∧ (W p = 0 ∨ W p = 1) ∧ st (3 + 5 * p) = Q p ∧ st (4 + 5 * p) = U p ∧ st (5 + 5 * p) = (if p = B then -4 else nI (p - 1)) ∧ st (6 + 5 * p) = W p ∧ st (7 + 5 * p) = (if p + 1 = c then -4 else nI (p + 1))) ∧ ∀ p, c ≤ p → p < 4 → st (5 + 5 * p) = -4 ∧ st (6 + 5 * p) = -4 ∧ st (7 + 5 * p) = -4
/-- phrases drawn, from B on, c of them in all, no more to come -/
def dr_D (B c : Nat) (Q U W st : Nat → Int32) : Prop := (∀ p, B ≤ p → p < c → (Q p = 0 ∨ Q p = 1 ∨ Q p = 2 ∨ Q p = 3) ∧ (U p = 0 ∨ U p = 1) ∧ (if p + 1 = c then W p = -4 else W p = 0 ∨ W p = 1) ∧ st (3 + 5 * p) = Q p ∧ st (4 + 5 * p) = U p ∧ st (5 + 5 * p) = (if p = B then -4 else nI (p - 1)) ∧ st (6 + 5 * p) = W p ∧ st (7 + 5 * p) = (if p + 1 = c then -4 else nI (p + 1))) ∧ ∀ p, c ≤ p → p < 4 → st (5 + 5 * p) = -4 ∧ st (6 + 5 * p) = -4 ∧ st (7 + 5 * p) = -4
def dr_F (B : Nat) (Q U W st Q' U' W' st' : Nat → Int32) : Prop := (∀ p, p < B → Q' p = Q p ∧ U' p = U p ∧ W' p = W p) ∧ ∀ j, ((1 ≤ j ∧ j < 3 + 5 * B) ∨ 23 ≤ j) → st' j = st j
theorem dr_F.tr {B : Nat} {Q U W st Q1 U1 W1 st1 Q2 U2 W2 st2 : Nat → Int32} (a : dr_F B Q U W st Q1 U1 W1 st1) (b : dr_F B Q1 U1 W1 st1 Q2 U2 W2 st2) : dr_F B Q U W st Q2 U2 W2 st2 := ⟨fun p hp => by obtain ⟨x, y, z⟩ := b.1 p hp; obtain ⟨x1, y1, z1⟩ := a.1 p hp; exact ⟨x.trans x1, y.trans y1, z.trans z1⟩, fun j hj => (b.2 j hj).trans (a.2 j hj)⟩
/-- the reference's row once phrase c is drawn -/
def dr_st (B c : Nat) (st : Nat → Int32) (q u : Int32) : Nat → Int32 := fun j => if j = 0 then nI (c + 1) else if j = 3 + 5 * c then q else if j = 4 + 5 * c then u else if j = 5 + 5 * c then (if c = B then -4 else nI (c - 1)) else if c ≠ B ∧ j + 3 = 5 + 5 * c then nI c else st j
theorem dr_step {B c : Nat} {Q U W st : Nat → Int32} {q u : Int32} (hB : B ≤ c) (hc : c < 4) (H : dr_H B c Q U W st) (hq : q = 0 ∨ q = 1 ∨ q = 2 ∨ q = 3) (hu : u = 0 ∨ u = 1) : dr_D B (c + 1) (upd Q c q) (upd U c u) (upd W c (-4)) (dr_st B c st q u) ∧ dr_F B Q U W st (upd Q c q) (upd U c u) (upd W c (-4)) (dr_st B c st q u) := by
  refine ⟨⟨fun p h1 h2 => ?_, fun p h1 h2 => ?_⟩, fun p hp => ?_, fun j hj => ?_⟩
  · by_cases e : p = c
    · subst e
      rw [pk_us, pk_us, pk_us]
      obtain ⟨z1, z2, z3⟩ := H.2 p (Nat.le_refl _) hc
      refine ⟨hq, hu, by rw [if_pos rfl], ?_, ?_, ?_, ?_, ?_⟩
      · unfold dr_st; rw [if_neg (by omega), if_pos rfl]
      · unfold dr_st; rw [if_neg (by omega), if_neg (by omega), if_pos rfl]
      · unfold dr_st; rw [if_neg (by omega), if_neg (by omega), if_neg (by omega), if_pos rfl]
      · unfold dr_st; rw [if_neg (by omega), if_neg (by omega), if_neg (by omega), if_neg (by omega), if_neg (by omega)]; exact z2
      · unfold dr_st; rw [if_neg (by omega), if_neg (by omega), if_neg (by omega), if_neg (by omega), if_neg (by omega), if_pos rfl]; exact z3
    · rw [pk_un e, pk_un e, pk_un e]
      obtain ⟨a1, a2, a3, a4, a5, a6, a7, a8⟩ := H.1 p h1 (by omega)
      refine ⟨a1, a2, by rw [if_neg (by omega)]; exact a3, ?_, ?_, ?_, ?_, ?_⟩
      · unfold dr_st; rw [if_neg (by omega), if_neg (by omega), if_neg (by omega), if_neg (by omega), if_neg (by omega)]; exact a4
      · unfold dr_st; rw [if_neg (by omega), if_neg (by omega), if_neg (by omega), if_neg (by omega), if_neg (by omega)]; exact a5
      · unfold dr_st; rw [if_neg (by omega), if_neg (by omega), if_neg (by omega), if_neg (by omega), if_neg (by omega)]; exact a6
      · unfold dr_st; rw [if_neg (by omega), if_neg (by omega), if_neg (by omega), if_neg (by omega), if_neg (by omega)]; exact a7
      · rw [if_neg (show ¬ p + 1 = c + 1 by omega)]
        by_cases e2 : p + 1 = c
        · unfold dr_st
          rw [if_neg (by omega), if_neg (by omega), if_neg (by omega), if_neg (by omega), if_pos (by omega), e2]
        · unfold dr_st
          rw [if_neg (by omega), if_neg (by omega), if_neg (by omega), if_neg (by omega), if_neg (by omega), a8, if_neg e2]
  · obtain ⟨z1, z2, z3⟩ := H.2 p (by omega) h2
    unfold dr_st
    refine ⟨?_, ?_, ?_⟩
    · rw [if_neg (by omega), if_neg (by omega), if_neg (by omega), if_neg (by omega), if_neg (by omega)]; exact z1
    · rw [if_neg (by omega), if_neg (by omega), if_neg (by omega), if_neg (by omega), if_neg (by omega)]; exact z2
    · rw [if_neg (by omega), if_neg (by omega), if_neg (by omega), if_neg (by omega), if_neg (by omega)]; exact z3
  · rw [pk_un (by omega), pk_un (by omega), pk_un (by omega)]; exact ⟨rfl, rfl, rfl⟩
  · unfold dr_st
    rw [if_neg (by omega), if_neg (by omega), if_neg (by omega), if_neg (by omega), if_neg (by omega)]
theorem dr_more {B c : Nat} {Q U W st : Nat → Int32} {x : Int32} (hB : B < c) (hc : c ≤ 4) (D : dr_D B c Q U W st) (hx : x = 0 ∨ x = 1) : dr_H B c Q U (upd W (c - 1) x) (upd st (6 + 5 * (c - 1)) x) ∧ dr_F B Q U W st Q U (upd W (c - 1) x) (upd st (6 + 5 * (c - 1)) x) := by
  refine ⟨⟨fun p h1 h2 => ?_, fun p h1 h2 => ?_⟩, fun p hp => ⟨rfl, rfl, pk_un (by omega)⟩, fun j hj => pk_un (by omega)⟩
  · obtain ⟨a1, a2, a3, a4, a5, a6, a7, a8⟩ := D.1 p h1 h2
    by_cases e : p = c - 1
    · subst e
      rw [pk_us, pk_us]
      refine ⟨a1, a2, hx, ?_, ?_, ?_, rfl, ?_⟩
      · rw [pk_un (by omega)]; exact a4
      · rw [pk_un (by omega)]; exact a5
      · rw [pk_un (by omega)]; exact a6
      · rw [pk_un (by omega)]; exact a8
    · rw [pk_un e]
      rw [if_neg (by omega)] at a3
      refine ⟨a1, a2, a3, ?_, ?_, ?_, ?_, ?_⟩
      · rw [pk_un (by omega)]; exact a4
      · rw [pk_un (by omega)]; exact a5
      · rw [pk_un (by omega)]; exact a6
      · rw [pk_un (by omega)]; exact a7
      · rw [pk_un (by omega)]; exact a8
  · obtain ⟨z1, z2, z3⟩ := D.2 p h1 h2
    rw [pk_un (by omega), pk_un (by omega), pk_un (by omega)]
    exact ⟨z1, z2, z3⟩
