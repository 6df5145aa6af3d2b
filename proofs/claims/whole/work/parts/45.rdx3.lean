/-! readings: rows out of figures, the list; the class's side -/
def tkl (b n : Nat) : Nat → Nat → List Nat → Option (List Nat)
  | 0, left, acc => if left = 0 then some acc else none
  | i + 1, left, acc => if left % b < n ∧ ¬ left % b ∈ acc then tkl b n i (left / b) (left % b :: acc) else none
def sb_ok (s : Nat) (acc : List Nat) : Prop := s < 16 ∧ ∀ p, p < 4 → s.testBit p = decide (p ∈ acc)
theorem sb_and : ∀ s, s < 16 → ∀ p, p < 4 → (nI s &&& ((1 : Int32) <<< (nI p &&& 31)) = 0 ↔ s.testBit p = false) := by decide +kernel
theorem sb_or : ∀ s, s < 16 → ∀ p, p < 4 → nI s ||| ((1 : Int32) <<< (nI p &&& 31)) = nI (s ||| 2 ^ p) ∧ (s ||| 2 ^ p) < 16 ∧ ∀ q, q < 4 → (s ||| 2 ^ p).testBit q = (decide (q = p) || s.testBit q) := by decide +kernel
theorem sb_ok.push {s p : Nat} {acc : List Nat} (h : sb_ok s acc) (hp : p < 4) : sb_ok (s ||| 2 ^ p) (p :: acc) := by
  obtain ⟨_, a, b⟩ := sb_or s h.1 p hp
  refine ⟨a, fun q hq => ?_⟩
  rw [b q hq, h.2 q hq]
  simp [List.mem_cons]
theorem tkl_mem {b n : Nat} : ∀ (i left : Nat) (acc l : List Nat), tkl b n i left acc = some l → i + acc.length = n → (∀ p ∈ acc, p < n) → acc.Nodup → l.length = n ∧ (∀ p ∈ l, p < n) ∧ l.Nodup
  | 0, left, acc, l, h, hi, hp, hd => by
    unfold tkl at h
    split at h
    · cases h
      exact ⟨by omega, hp, hd⟩
    · cases h
  | i + 1, left, acc, l, h, hi, hp, hd => by
    unfold tkl at h
    split at h
    · next q =>
      refine tkl_mem i _ _ l h (by rw [List.length_cons]; omega) (fun p hq => ?_) (List.nodup_cons.mpr ⟨q.2, hd⟩)
      rcases List.mem_cons.mp hq with rfl | z
      · exact q.1
      · exact hp p z
    · cases h
theorem tk_p2 : ((List.range 2).all fun a => (List.range 2).all fun b => !(decide [a, b].Nodup) || decide ([a, b] ∈ rd_perms 2)) = true := by decide +kernel
theorem tk_p3 : ((List.range 3).all fun a => (List.range 3).all fun b => (List.range 3).all fun c => !(decide [a, b, c].Nodup) || decide ([a, b, c] ∈ rd_perms 3)) = true := by decide +kernel
theorem tk_p4 : ((List.range 4).all fun a => (List.range 4).all fun b => (List.range 4).all fun c => (List.range 4).all fun e => !(decide [a, b, c, e].Nodup) || decide ([a, b, c, e] ∈ rd_perms 4)) = true := by decide +kernel
theorem al_ex {n a : Nat} {P : Nat → Bool} (h : ((List.range n).all P) = true) (ha : a < n) : P a = true := List.all_eq_true.mp h a (List.mem_range.mpr ha)
theorem or_ex {P Q : Prop} [Decidable P] [Decidable Q] (h : (!(decide P) || decide Q) = true) (hp : P) : Q := by
  rw [decide_eq_true hp] at h
  exact of_decide_eq_true h
theorem tk_perm {n : Nat} {l : List Nat} (h2 : 2 ≤ n) (h4 : n ≤ 4) (hl : l.length = n) (hp : ∀ p ∈ l, p < n) (hd : l.Nodup) : l ∈ rd_perms n := by
  have : n = 2 ∨ n = 3 ∨ n = 4 := by omega
  rcases this with rfl | rfl | rfl
  · match l, hl with
    | [a, b], _ => exact or_ex (al_ex (al_ex tk_p2 (hp a (by simp))) (hp b (by simp))) hd
  · match l, hl with
    | [a, b, c], _ => exact or_ex (al_ex (al_ex (al_ex tk_p3 (hp a (by simp))) (hp b (by simp))) (hp c (by simp))) hd
  · match l, hl with
    | [a, b, c, e], _ => exact or_ex (al_ex (al_ex (al_ex (al_ex tk_p4 (hp a (by simp))) (hp b (by simp))) (hp c (by simp))) (hp e (by simp))) hd
theorem rd_all : ∀ n, n < 5 → ∀ l ∈ rd_perms n, ∀ p, p < n → p ∈ l := by decide +kernel
theorem x_tk_l {d b n : Nat} (hn : n ≤ 4) (hb : 2 ≤ b) (hb2 : b ≤ 10) : ∀ (i left : Nat) (acc : List Nat) (s : Nat) {tN : Int32} {tB : Nat → Int32} {pF pA pT pB dN dO dV dZ : Int32} {dQ dU dW : Nat → Int32} {sN sO sV sZ : Int32} {sQ sU sW : Nat → Int32} {rN : Int32} {rP rK rF rR rT rL rQ : Nat → Int32} {mS : Int32} {mT : Nat → Int64} {mK : Nat → Int32} {mF : Nat → Int64} {mG m1 m2 : Nat → Int32} {wN : Int32} {wF : Int64} {yN : Int32} {yF : Int64} {iK eN eO eV eZ : Int32} {eQ eU eW : Nat → Int32} {eS : Int32} {eB : Int64} {jK fN fO fV fZ : Int32} {fQ fU fW : Nat → Int32} {fS : Int32} {fB : Int64} {h0N h0L : Int32} {h0C : Nat → Int32} {h1N h1L : Int32} {h1C : Nat → Int32} {h2N h2L : Int32} {h2C : Nat → Int32} {h3N h3L : Int32} {h3C : Nat → Int32}, left < 2 ^ 31 → sb_ok s acc → i + acc.length = n → (∀ j, i ≤ j → j < n → rR j = nI (acc.getD (j - i) 0)) → (∀ p ∈ acc, p < n ∧ rT p = nI (i + acc.idxOf p)) → ∃ (v : Int32) (rR' rT' : Nat → Int32), Go d 24 22 [some (.ref 12), none, some (.int (nI b)), some (.int (nI n)), some (.int (nI left)), some (.int (nI s)), some (.int (nI i - 1)), none] [] (hX tN tB pF pA pT pB dN dO dV dZ dQ dU dW sN sO sV sZ sQ sU sW rN rP rK rF rR rT rL rQ mS mT mK mF mG m1 m2 wN wF yN yF iK eN eO eV eZ eQ eU eW eS eB jK fN fO fV fZ fQ fU fW fS fB h0N h0L h0C h1N h1L h1C h2N h2L h2C h3N h3L h3C) (some (.int v)) (hX tN tB pF pA pT pB dN dO dV dZ dQ dU dW sN sO sV sZ sQ sU sW rN rP rK rF rR' rT' rL rQ mS mT mK mF mG m1 m2 wN wF yN yF iK eN eO eV eZ eQ eU eW eS eB jK fN fO fV fZ fQ fU fW fS fB h0N h0L h0C h1N h1L h1C h2N h2L h2C h3N h3L h3C) ∧ (match tkl b n i left acc with | none => v = 0 | some l => v = 1 ∧ (∀ j, j < n → rR' j = nI (l.getD j 0)) ∧ (∀ p ∈ l, p < n ∧ rT' p = nI (l.idxOf p)))
  | 0, left, acc, s, tN, tB, pF, pA, pT, pB, dN, dO, dV, dZ, dQ, dU, dW, sN, sO, sV, sZ, sQ, sU, sW, rN, rP, rK, rF, rR, rT, rL, rQ, mS, mT, mK, mF, mG, m1, m2, wN, wF, yN, yF, iK, eN, eO, eV, eZ, eQ, eU, eW, eS, eB, jK, fN, fO, fV, fZ, fQ, fU, fW, fS, fB, h0N, h0L, h0C, h1N, h1L, h1C, h2N, h2L, h2C, h3N, h3L, h3C, hl, hs, hi, hR, hT => by
    refine ⟨if nI left = 0 then 1 else 0, rR, rT, b_X3_takeFigures_22 (cy (by decide) ⟨rfl, rfl⟩), ?_⟩
    unfold tkl
    by_cases h : left = 0
    · subst h
      rw [if_pos rfl]
      exact ⟨rfl, fun j hj => hR j (by omega) hj, fun p hp => ⟨(hT p hp).1, by rw [(hT p hp).2, Nat.zero_add]⟩⟩
    · rw [if_neg h, if_neg (nI_ne0 (by omega) hl)]
  | i + 1, left, acc, s, tN, tB, pF, pA, pT, pB, dN, dO, dV, dZ, dQ, dU, dW, sN, sO, sV, sZ, sQ, sU, sW, rN, rP, rK, rF, rR, rT, rL, rQ, mS, mT, mK, mF, mG, m1, m2, wN, wF, yN, yF, iK, eN, eO, eV, eZ, eQ, eU, eW, eS, eB, jK, fN, fO, fV, fZ, fQ, fU, fW, fS, fB, h0N, h0L, h0C, h1N, h1L, h1C, h2N, h2L, h2C, h3N, h3L, h3C, hl, hs, hi, hR, hT => by
    have hdm : left / b ≤ left := Nat.div_le_self _ _
    have hb0 : ¬ nI b = 0 := nI_ne0 (by omega) (by omega)
    have e0 : nI (i + 1) - 1 = nI i := nI_pred i
    have e1 : nI i + (-1 : Int32) = nI i - 1 := (Int32.sub_eq_add_neg _ _).symm
    have hmb : left % b < b := Nat.mod_lt _ (by omega)
    unfold tkl
    by_cases h1 : left % b < n
    · by_cases h2 : left % b ∈ acc
      · rw [if_neg (fun z => z.2 h2)]
        refine ⟨0, rR, rT, b_X3_takeFigures_22 ?_, rfl⟩
        rw [pk_rem hl (by omega) (by omega), pk_div hl (by omega) (by omega), e0]
        refine cn (nI_pos (by omega)) ⟨hb0, hb0, cn (nI_ge h1 (by omega)) (cn ?_ ⟨rfl, rfl⟩)⟩
        rw [sb_and s hs.1 _ (by omega), hs.2 _ (by omega)]
        simp [h2]
      · rw [if_pos ⟨h1, h2⟩]
        obtain ⟨v, rR', rT', g, q⟩ := x_tk_l (d := d) hn hb hb2 i (left / b) (left % b :: acc) (s ||| 2 ^ (left % b)) (tN := tN) (tB := tB) (pF := pF) (pA := pA) (pT := pT) (pB := pB) (dN := dN) (dO := dO) (dV := dV) (dZ := dZ) (dQ := dQ) (dU := dU) (dW := dW) (sN := sN) (sO := sO) (sV := sV) (sZ := sZ) (sQ := sQ) (sU := sU) (sW := sW) (rN := rN) (rP := rP) (rK := rK) (rF := rF) (rR := (upd rR i (nI (left % b)))) (rT := (upd rT (left % b) (nI i))) (rL := rL) (rQ := rQ) (mS := mS) (mT := mT) (mK := mK) (mF := mF) (mG := mG) (m1 := m1) (m2 := m2) (wN := wN) (wF := wF) (yN := yN) (yF := yF) (iK := iK) (eN := eN) (eO := eO) (eV := eV) (eZ := eZ) (eQ := eQ) (eU := eU) (eW := eW) (eS := eS) (eB := eB) (jK := jK) (fN := fN) (fO := fO) (fV := fV) (fZ := fZ) (fQ := fQ) (fU := fU) (fW := fW) (fS := fS) (fB := fB) (h0N := h0N) (h0L := h0L) (h0C := h0C) (h1N := h1N) (h1L := h1L) (h1C := h1C) (h2N := h2N) (h2L := h2L) (h2C := h2C) (h3N := h3N) (h3L := h3L) (h3C := h3C) (by omega) (hs.push (by omega)) (by rw [List.length_cons]; omega) (fun j h3 h4 => by
          by_cases e : j = i
          · subst e; rw [pk_us, Nat.sub_self]; rfl
          · rw [pk_un e, hR j (by omega) h4]
            obtain ⟨k, rfl⟩ : ∃ k, j = i + 1 + k := ⟨j - (i + 1), by omega⟩
            rw [show i + 1 + k - (i + 1) = k by omega, show i + 1 + k - i = k + 1 by omega]
            rfl) (fun p hp => by
          rcases List.mem_cons.mp hp with rfl | z
          · rw [pk_us]; simp; exact h1
          · have hne : p ≠ left % b := fun e => h2 (e ▸ z)
            have hi : (left % b :: acc).idxOf p = acc.idxOf p + 1 := by
              rw [List.idxOf_cons, beq_false_of_ne (Ne.symm hne)]; rfl
            rw [pk_un hne, (hT p z).2, hi]
            exact ⟨(hT p z).1, by congr 1; omega⟩)
        refine ⟨v, rR', rT', b_X3_takeFigures_22 ?_, q⟩
        rw [pk_rem hl (by omega) (by omega), pk_div hl (by omega) (by omega), e0, e1, (sb_or s hs.1 _ (by omega)).1]
        refine cn (nI_pos (by omega)) ⟨hb0, hb0, cn (nI_ge h1 (by omega)) (cy ?_ ⟨i, rfl, by omega, left % b, rfl, by omega, g⟩)⟩
        rw [sb_and s hs.1 _ (by omega), hs.2 _ (by omega)]
        simp [h2]
    · rw [if_neg (fun z => h1 z.1)]
      refine ⟨0, rR, rT, b_X3_takeFigures_22 ?_, rfl⟩
      rw [pk_rem hl (by omega) (by omega), pk_div hl (by omega) (by omega), e0]
      exact cn (nI_pos (by omega)) ⟨hb0, hb0, cy (nI_le (by omega) (by omega)) ⟨rfl, rfl⟩⟩
theorem x_takeFigures {d b n f : Nat} (hn2 : 2 ≤ n) (hn : n ≤ 4) (hb : 2 ≤ b) (hb2 : b ≤ 10) {tN : Int32} {tB : Nat → Int32} {pF pA pT pB dN dO dV dZ : Int32} {dQ dU dW : Nat → Int32} {sN sO sV sZ : Int32} {sQ sU sW : Nat → Int32} {rN : Int32} {rP rK rF rR rT rL rQ : Nat → Int32} {mS : Int32} {mT : Nat → Int64} {mK : Nat → Int32} {mF : Nat → Int64} {mG m1 m2 : Nat → Int32} {wN : Int32} {wF : Int64} {yN : Int32} {yF : Int64} {iK eN eO eV eZ : Int32} {eQ eU eW : Nat → Int32} {eS : Int32} {eB : Int64} {jK fN fO fV fZ : Int32} {fQ fU fW : Nat → Int32} {fS : Int32} {fB : Int64} {h0N h0L : Int32} {h0C : Nat → Int32} {h1N h1L : Int32} {h1C : Nat → Int32} {h2N h2L : Int32} {h2C : Nat → Int32} {h3N h3L : Int32} {h3C : Nat → Int32} (hf : f < 2 ^ 31) : ∃ (v : Int32) (rR' rT' : Nat → Int32), Go d 24 0 [some (.ref 12), some (.int (nI f)), some (.int (nI b)), some (.int (nI n)), none, none, none, none] [] (hX tN tB pF pA pT pB dN dO dV dZ dQ dU dW sN sO sV sZ sQ sU sW rN rP rK rF rR rT rL rQ mS mT mK mF mG m1 m2 wN wF yN yF iK eN eO eV eZ eQ eU eW eS eB jK fN fO fV fZ fQ fU fW fS fB h0N h0L h0C h1N h1L h1C h2N h2L h2C h3N h3L h3C) (some (.int v)) (hX tN tB pF pA pT pB dN dO dV dZ dQ dU dW sN sO sV sZ sQ sU sW rN rP rK rF rR' rT' rL rQ mS mT mK mF mG m1 m2 wN wF yN yF iK eN eO eV eZ eQ eU eW eS eB jK fN fO fV fZ fQ fU fW fS fB h0N h0L h0C h1N h1L h1C h2N h2L h2C h3N h3L h3C) ∧ (match tkl b n n f [] with | none => v = 0 | some l => v = 1 ∧ l ∈ rd_perms n ∧ rw_X n l rR' rT') := by
  obtain ⟨v, rR', rT', g, q⟩ := x_tk_l (d := d) hn hb hb2 n f [] 0 (tN := tN) (tB := tB) (pF := pF) (pA := pA) (pT := pT) (pB := pB) (dN := dN) (dO := dO) (dV := dV) (dZ := dZ) (dQ := dQ) (dU := dU) (dW := dW) (sN := sN) (sO := sO) (sV := sV) (sZ := sZ) (sQ := sQ) (sU := sU) (sW := sW) (rN := rN) (rP := rP) (rK := rK) (rF := rF) (rR := rR) (rT := rT) (rL := rL) (rQ := rQ) (mS := mS) (mT := mT) (mK := mK) (mF := mF) (mG := mG) (m1 := m1) (m2 := m2) (wN := wN) (wF := wF) (yN := yN) (yF := yF) (iK := iK) (eN := eN) (eO := eO) (eV := eV) (eZ := eZ) (eQ := eQ) (eU := eU) (eW := eW) (eS := eS) (eB := eB) (jK := jK) (fN := fN) (fO := fO) (fV := fV) (fZ := fZ) (fQ := fQ) (fU := fU) (fW := fW) (fS := fS) (fB := fB) (h0N := h0N) (h0L := h0L) (h0C := h0C) (h1N := h1N) (h1L := h1L) (h1C := h1C) (h2N := h2N) (h2L := h2L) (h2C := h2C) (h3N := h3N) (h3L := h3L) (h3C := h3C) hf ⟨by decide, fun p _ => by simp⟩ (by simp) (fun j h1 h2 => by omega) (fun p hp => by cases hp)
  refine ⟨v, rR', rT', b_X3_takeFigures_0 (cn (nI_pos hf) (cy (nI_le (a := 2) (b := b) hb (by omega)) g)), ?_⟩
  cases h : tkl b n n f [] with
  | none => rw [h] at q; exact q
  | some l =>
    rw [h] at q
    obtain ⟨q1, q2, q3⟩ := q
    obtain ⟨a1, a2, a3⟩ := tkl_mem n f [] l h (by simp) (fun p hp => by cases hp) List.nodup_nil
    have hl := tk_perm hn2 hn a1 a2 a3
    exact ⟨q1, hl, fun i hi => ⟨q2 i hi, (q3 i (rd_all n (by omega) l hl i hi)).2⟩⟩
/-- how many rows the numbers below j are -/
def tk_cn (n j : Nat) : Nat := ct (fun j => (tkl n n n j []).isSome) j
theorem tk_cn_ok : ∀ n, n < 5 → (2 ≤ n → ∀ j, j < n ^ n → (match tkl n n n j [] with | none => true | some l => decide (tk_cn n j < (rd_perms n).length ∧ (rd_perms n).getD (tk_cn n j) [] = l)) = true) ∧ (2 ≤ n → tk_cn n (n ^ n) = (rd_perms n).length) := by decide +kernel
theorem x_list_l {d n o : Nat} (hn2 : 2 ≤ n) (hn : n ≤ 4) (ho : o < n) : ∀ (m j : Nat) {tN : Int32} {tB : Nat → Int32} {pF pA pT pB dN dO dV dZ : Int32} {dQ dU dW : Nat → Int32} {sN sO sV sZ : Int32} {sQ sU sW : Nat → Int32} {rN : Int32} {rP rK rF rR rT rL rQ : Nat → Int32} {mS : Int32} {mT : Nat → Int64} {mK : Nat → Int32} {mF : Nat → Int64} {mG m1 m2 : Nat → Int32} {wN : Int32} {wF : Int64} {yN : Int32} {yF : Int64} {iK eN eO eV eZ : Int32} {eQ eU eW : Nat → Int32} {eS : Int32} {eB : Int64} {jK fN fO fV fZ : Int32} {fQ fU fW : Nat → Int32} {fS : Int32} {fB : Int64} {h0N h0L : Int32} {h0C : Nat → Int32} {h1N h1L : Int32} {h1C : Nat → Int32} {h2N h2L : Int32} {h2C : Nat → Int32} {h3N h3L : Int32} {h3C : Nat → Int32}, sN = nI n → sO = nI o → j + m = n ^ n → tk_cn n j ≤ (rd_perms n).length → tb_X n o (rd_acc n o (tk_cn n j)) rN rP rK rF → ∃ (rN' : Int32) (rP' rK' rF' rR' rT' rL' rQ' : Nat → Int32), tb_X n o (rd_RD n o) rN' rP' rK' rF' ∧ Go (d + 3) 23 34 [some (.ref 12), some (.ref 8), some (.int (nI n)), some (.int (nI (n ^ n))), some (.int (nI j))] [] (hX tN tB pF pA pT pB dN dO dV dZ dQ dU dW sN sO sV sZ sQ sU sW rN rP rK rF rR rT rL rQ mS mT mK mF mG m1 m2 wN wF yN yF iK eN eO eV eZ eQ eU eW eS eB jK fN fO fV fZ fQ fU fW fS fB h0N h0L h0C h1N h1L h1C h2N h2L h2C h3N h3L h3C) none (hX tN tB pF pA pT pB dN dO dV dZ dQ dU dW sN sO sV sZ sQ sU sW rN' rP' rK' rF' rR' rT' rL' rQ' mS mT mK mF mG m1 m2 wN wF yN yF iK eN eO eV eZ eQ eU eW eS eB jK fN fO fV fZ fQ fU fW fS fB h0N h0L h0C h1N h1L h1C h2N h2L h2C h3N h3L h3C)
  | 0, j, tN, tB, pF, pA, pT, pB, dN, dO, dV, dZ, dQ, dU, dW, sN, sO, sV, sZ, sQ, sU, sW, rN, rP, rK, rF, rR, rT, rL, rQ, mS, mT, mK, mF, mG, m1, m2, wN, wF, yN, yF, iK, eN, eO, eV, eZ, eQ, eU, eW, eS, eB, jK, fN, fO, fV, fZ, fQ, fU, fW, fS, fB, h0N, h0L, h0C, h1N, h1L, h1C, h2N, h2L, h2C, h3N, h3L, h3C, hN, hO, hj, hc, T => by
    have hp : n ^ n < 1000 := by
      have : n = 2 ∨ n = 3 ∨ n = 4 := by omega
      rcases this with rfl | rfl | rfl <;> decide
    have : j = n ^ n := by omega
    subst this
    rw [(tk_cn_ok n (by omega)).2 hn2] at T
    exact ⟨rN, rP, rK, rF, rR, rT, rL, rQ, T, b_X3_list_34 (pk_le (n ^ n) (n ^ n) (fun _ => ⟨rfl, rfl⟩) (fun q => by omega))⟩
  | m + 1, j, tN, tB, pF, pA, pT, pB, dN, dO, dV, dZ, dQ, dU, dW, sN, sO, sV, sZ, sQ, sU, sW, rN, rP, rK, rF, rR, rT, rL, rQ, mS, mT, mK, mF, mG, m1, m2, wN, wF, yN, yF, iK, eN, eO, eV, eZ, eQ, eU, eW, eS, eB, jK, fN, fO, fV, fZ, fQ, fU, fW, fS, fB, h0N, h0L, h0C, h1N, h1L, h1C, h2N, h2L, h2C, h3N, h3L, h3C, hN, hO, hj, hc, T => by
    have hp : n ^ n < 1000 := by
      have : n = 2 ∨ n = 3 ∨ n = 4 := by omega
      rcases this with rfl | rfl | rfl <;> decide
    obtain ⟨v, rR1, rT1, g1, q1⟩ := x_takeFigures (d := d + 2) (b := n) (f := j) hn2 hn hn2 (by omega) (tN := tN) (tB := tB) (pF := pF) (pA := pA) (pT := pT) (pB := pB) (dN := dN) (dO := dO) (dV := dV) (dZ := dZ) (dQ := dQ) (dU := dU) (dW := dW) (sN := sN) (sO := sO) (sV := sV) (sZ := sZ) (sQ := sQ) (sU := sU) (sW := sW) (rN := rN) (rP := rP) (rK := rK) (rF := rF) (rR := rR) (rT := rT) (rL := rL) (rQ := rQ) (mS := mS) (mT := mT) (mK := mK) (mF := mF) (mG := mG) (m1 := m1) (m2 := m2) (wN := wN) (wF := wF) (yN := yN) (yF := yF) (iK := iK) (eN := eN) (eO := eO) (eV := eV) (eZ := eZ) (eQ := eQ) (eU := eU) (eW := eW) (eS := eS) (eB := eB) (jK := jK) (fN := fN) (fO := fO) (fV := fV) (fZ := fZ) (fQ := fQ) (fU := fU) (fW := fW) (fS := fS) (fB := fB) (h0N := h0N) (h0L := h0L) (h0C := h0C) (h1N := h1N) (h1L := h1L) (h1C := h1C) (h2N := h2N) (h2L := h2L) (h2C := h2C) (h3N := h3N) (h3L := h3L) (h3C := h3C) (by omega)
    have hk := (tk_cn_ok n (by omega)).1 hn2 j (by omega)
    have hs : tk_cn n (j + 1) = tk_cn n j + (if (tkl n n n j []).isSome then 1 else 0) := rfl
    cases h : tkl n n n j [] with
    | none =>
      rw [h] at q1 hs
      have hs : tk_cn n (j + 1) = tk_cn n j := hs
      rw [← hs] at T hc
      obtain ⟨rN', rP', rK', rF', rR', rT', rL', rQ', t, g⟩ := x_list_l (d := d) hn2 hn ho m (j + 1) (tN := tN) (tB := tB) (pF := pF) (pA := pA) (pT := pT) (pB := pB) (dN := dN) (dO := dO) (dV := dV) (dZ := dZ) (dQ := dQ) (dU := dU) (dW := dW) (sN := sN) (sO := sO) (sV := sV) (sZ := sZ) (sQ := sQ) (sU := sU) (sW := sW) (rN := rN) (rP := rP) (rK := rK) (rF := rF) (rR := rR1) (rT := rT1) (rL := rL) (rQ := rQ) (mS := mS) (mT := mT) (mK := mK) (mF := mF) (mG := mG) (m1 := m1) (m2 := m2) (wN := wN) (wF := wF) (yN := yN) (yF := yF) (iK := iK) (eN := eN) (eO := eO) (eV := eV) (eZ := eZ) (eQ := eQ) (eU := eU) (eW := eW) (eS := eS) (eB := eB) (jK := jK) (fN := fN) (fO := fO) (fV := fV) (fZ := fZ) (fQ := fQ) (fU := fU) (fW := fW) (fS := fS) (fB := fB) (h0N := h0N) (h0L := h0L) (h0C := h0C) (h1N := h1N) (h1L := h1L) (h1C := h1C) (h2N := h2N) (h2L := h2L) (h2C := h2C) (h3N := h3N) (h3L := h3L) (h3C := h3C) hN hO (by omega) hc T
      exact ⟨rN', rP', rK', rF', rR', rT', rL', rQ', t, b_X3_list_34 (pk_le (n ^ n) j (fun q => by omega) (fun _ => ⟨v, rR1, rT1, g1, cy q1 (by rw [nI_1]; exact g)⟩))⟩
    | some l =>
      rw [h] at q1 hs hk
      obtain ⟨hv, hl, hrw⟩ := q1
      have hs : tk_cn n (j + 1) = tk_cn n j + 1 := hs
      have hk : tk_cn n j < (rd_perms n).length ∧ (rd_perms n).getD (tk_cn n j) [] = l := of_decide_eq_true hk
      obtain ⟨rL1, rQ1, a1, a2, g2⟩ := x_placeAll (d := d) hn ho hl (tN := tN) (tB := tB) (pF := pF) (pA := pA) (pT := pT) (pB := pB) (dN := dN) (dO := dO) (dV := dV) (dZ := dZ) (dQ := dQ) (dU := dU) (dW := dW) (sN := sN) (sO := sO) (sV := sV) (sZ := sZ) (sQ := sQ) (sU := sU) (sW := sW) (rN := rN) (rP := rP) (rK := rK) (rF := rF) (rR := rR1) (rT := rT1) (rL := rL) (rQ := rQ) (mS := mS) (mT := mT) (mK := mK) (mF := mF) (mG := mG) (m1 := m1) (m2 := m2) (wN := wN) (wF := wF) (yN := yN) (yF := yF) (iK := iK) (eN := eN) (eO := eO) (eV := eV) (eZ := eZ) (eQ := eQ) (eU := eU) (eW := eW) (eS := eS) (eB := eB) (jK := jK) (fN := fN) (fO := fO) (fV := fV) (fZ := fZ) (fQ := fQ) (fU := fU) (fW := fW) (fS := fS) (fB := fB) (h0N := h0N) (h0L := h0L) (h0C := h0C) (h1N := h1N) (h1L := h1L) (h1C := h1C) (h2N := h2N) (h2L := h2L) (h2C := h2C) (h3N := h3N) (h3L := h3L) (h3C := h3C) hN hO hrw
      have h24 := rd_perms_len n
      have hlen := rd_acc_len n o (tk_cn n j)
      have g3 := x_find (d := d + 1) (n := n) (o := o) (acc := rd_acc n o (tk_cn n j)) (l := l) hn (by omega) (tN := tN) (tB := tB) (pF := pF) (pA := pA) (pT := pT) (pB := pB) (dN := dN) (dO := dO) (dV := dV) (dZ := dZ) (dQ := dQ) (dU := dU) (dW := dW) (sN := sN) (sO := sO) (sV := sV) (sZ := sZ) (sQ := sQ) (sU := sU) (sW := sW) (rN := rN) (rP := rP) (rK := rK) (rF := rF) (rR := rR1) (rT := rT1) (rL := rL1) (rQ := rQ1) (mS := mS) (mT := mT) (mK := mK) (mF := mF) (mG := mG) (m1 := m1) (m2 := m2) (wN := wN) (wF := wF) (yN := yN) (yF := yF) (iK := iK) (eN := eN) (eO := eO) (eV := eV) (eZ := eZ) (eQ := eQ) (eU := eU) (eW := eW) (eS := eS) (eB := eB) (jK := jK) (fN := fN) (fO := fO) (fV := fV) (fZ := fZ) (fQ := fQ) (fU := fU) (fW := fW) (fS := fS) (fB := fB) (h0N := h0N) (h0L := h0L) (h0C := h0C) (h1N := h1N) (h1L := h1L) (h1C := h1C) (h2N := h2N) (h2L := h2L) (h2C := h2C) (h3N := h3N) (h3L := h3L) (h3C := h3C) T a1 a2
      have hacc : rd_acc n o (tk_cn n (j + 1)) = rd_stp n o (rd_acc n o (tk_cn n j)) l := by rw [hs]; unfold rd_acc; rw [hk.2]; cases tk_cn n j <;> rfl
      have hv0 : ¬ v = 0 := by rw [hv]; decide
      cases hf : rd_find n o (rd_acc n o (tk_cn n j)) l with
      | none =>
        rw [hf] at g3
        have ha : rd_acc n o (tk_cn n (j + 1)) = rd_acc n o (tk_cn n j) ++ [l] := by rw [hacc]; unfold rd_stp; rw [hf]; rfl
        obtain ⟨rN2, rP2, rK2, rF2, T2, g4⟩ := x_append (d := d + 2) (n := n) (o := o) (acc := rd_acc n o (tk_cn n j)) (l := l) hn (by omega) (tN := tN) (tB := tB) (pF := pF) (pA := pA) (pT := pT) (pB := pB) (dN := dN) (dO := dO) (dV := dV) (dZ := dZ) (dQ := dQ) (dU := dU) (dW := dW) (sN := sN) (sO := sO) (sV := sV) (sZ := sZ) (sQ := sQ) (sU := sU) (sW := sW) (rN := rN) (rP := rP) (rK := rK) (rF := rF) (rR := rR1) (rT := rT1) (rL := rL1) (rQ := rQ1) (mS := mS) (mT := mT) (mK := mK) (mF := mF) (mG := mG) (m1 := m1) (m2 := m2) (wN := wN) (wF := wF) (yN := yN) (yF := yF) (iK := iK) (eN := eN) (eO := eO) (eV := eV) (eZ := eZ) (eQ := eQ) (eU := eU) (eW := eW) (eS := eS) (eB := eB) (jK := jK) (fN := fN) (fO := fO) (fV := fV) (fZ := fZ) (fQ := fQ) (fU := fU) (fW := fW) (fS := fS) (fB := fB) (h0N := h0N) (h0L := h0L) (h0C := h0C) (h1N := h1N) (h1L := h1L) (h1C := h1C) (h2N := h2N) (h2L := h2L) (h2C := h2C) (h3N := h3N) (h3L := h3L) (h3C := h3C) T a1 a2 (fun y hy => (hrw y hy).1)
        rw [← ha] at T2
        obtain ⟨rN', rP', rK', rF', rR', rT', rL', rQ', t, g⟩ := x_list_l (d := d) hn2 hn ho m (j + 1) (tN := tN) (tB := tB) (pF := pF) (pA := pA) (pT := pT) (pB := pB) (dN := dN) (dO := dO) (dV := dV) (dZ := dZ) (dQ := dQ) (dU := dU) (dW := dW) (sN := sN) (sO := sO) (sV := sV) (sZ := sZ) (sQ := sQ) (sU := sU) (sW := sW) (rN := rN2) (rP := rP2) (rK := rK2) (rF := rF2) (rR := rR1) (rT := rT1) (rL := rL1) (rQ := rQ1) (mS := mS) (mT := mT) (mK := mK) (mF := mF) (mG := mG) (m1 := m1) (m2 := m2) (wN := wN) (wF := wF) (yN := yN) (yF := yF) (iK := iK) (eN := eN) (eO := eO) (eV := eV) (eZ := eZ) (eQ := eQ) (eU := eU) (eW := eW) (eS := eS) (eB := eB) (jK := jK) (fN := fN) (fO := fO) (fV := fV) (fZ := fZ) (fQ := fQ) (fU := fU) (fW := fW) (fS := fS) (fB := fB) (h0N := h0N) (h0L := h0L) (h0C := h0C) (h1N := h1N) (h1L := h1L) (h1C := h1C) (h2N := h2N) (h2L := h2L) (h2C := h2C) (h3N := h3N) (h3L := h3L) (h3C := h3C) hN hO (by omega) (by omega) T2
        exact ⟨rN', rP', rK', rF', rR', rT', rL', rQ', t, b_X3_list_34 (pk_le (n ^ n) j (fun q => by omega) (fun _ => ⟨v, rR1, rT1, g1, cn hv0 ⟨rL1, rQ1, g2, _, g3, ny rfl ⟨rN2, rP2, rK2, rF2, g4, by rw [nI_1]; exact g⟩⟩⟩))⟩
      | some k =>
        rw [hf] at g3
        have hkl : ¬ nI k = (-4 : Int32) := by
          have h1 : k < 24 := by
            have : ∀ (P : Nat → Bool) (m i k : Nat), fr P m i = some k → k < i + m := by
              intro P m
              induction m with
              | zero => intro i k h; cases h
              | succ m ih =>
                intro i k h
                unfold fr at h
                split at h
                · cases h; omega
                · have := ih (i + 1) k h; omega
            have := this _ _ _ _ hf
            omega
          have : ∀ p, p < 24 → ¬ nI p = (-4 : Int32) := by decide +kernel
          exact this k h1
        have ha : rd_acc n o (tk_cn n (j + 1)) = rd_acc n o (tk_cn n j) := by rw [hacc]; unfold rd_stp; rw [hf]; rfl
        rw [← ha] at T
        obtain ⟨rN', rP', rK', rF', rR', rT', rL', rQ', t, g⟩ := x_list_l (d := d) hn2 hn ho m (j + 1) (tN := tN) (tB := tB) (pF := pF) (pA := pA) (pT := pT) (pB := pB) (dN := dN) (dO := dO) (dV := dV) (dZ := dZ) (dQ := dQ) (dU := dU) (dW := dW) (sN := sN) (sO := sO) (sV := sV) (sZ := sZ) (sQ := sQ) (sU := sU) (sW := sW) (rN := rN) (rP := rP) (rK := rK) (rF := rF) (rR := rR1) (rT := rT1) (rL := rL1) (rQ := rQ1) (mS := mS) (mT := mT) (mK := mK) (mF := mF) (mG := mG) (m1 := m1) (m2 := m2) (wN := wN) (wF := wF) (yN := yN) (yF := yF) (iK := iK) (eN := eN) (eO := eO) (eV := eV) (eZ := eZ) (eQ := eQ) (eU := eU) (eW := eW) (eS := eS) (eB := eB) (jK := jK) (fN := fN) (fO := fO) (fV := fV) (fZ := fZ) (fQ := fQ) (fU := fU) (fW := fW) (fS := fS) (fB := fB) (h0N := h0N) (h0L := h0L) (h0C := h0C) (h1N := h1N) (h1L := h1L) (h1C := h1C) (h2N := h2N) (h2L := h2L) (h2C := h2C) (h3N := h3N) (h3L := h3L) (h3C := h3C) hN hO (by omega) (by omega) T
        exact ⟨rN', rP', rK', rF', rR', rT', rL', rQ', t, b_X3_list_34 (pk_le (n ^ n) j (fun q => by omega) (fun _ => ⟨v, rR1, rT1, g1, cn hv0 ⟨rL1, rQ1, g2, _, g3, nn hkl (by rw [nI_1]; exact g)⟩⟩))⟩
theorem x_list {d n o : Nat} (hn2 : 2 ≤ n) (hn : n ≤ 4) (ho : o < n) {tN : Int32} {tB : Nat → Int32} {pF pA pT pB dN dO dV dZ : Int32} {dQ dU dW : Nat → Int32} {sN sO sV sZ : Int32} {sQ sU sW : Nat → Int32} {rN : Int32} {rP rK rF rR rT rL rQ : Nat → Int32} {mS : Int32} {mT : Nat → Int64} {mK : Nat → Int32} {mF : Nat → Int64} {mG m1 m2 : Nat → Int32} {wN : Int32} {wF : Int64} {yN : Int32} {yF : Int64} {iK eN eO eV eZ : Int32} {eQ eU eW : Nat → Int32} {eS : Int32} {eB : Int64} {jK fN fO fV fZ : Int32} {fQ fU fW : Nat → Int32} {fS : Int32} {fB : Int64} {h0N h0L : Int32} {h0C : Nat → Int32} {h1N h1L : Int32} {h1C : Nat → Int32} {h2N h2L : Int32} {h2C : Nat → Int32} {h3N h3L : Int32} {h3C : Nat → Int32} (hN : sN = nI n) (hO : sO = nI o) : ∃ (rN' : Int32) (rP' rK' rF' rR' rT' rL' rQ' : Nat → Int32), tb_X n o (rd_RD n o) rN' rP' rK' rF' ∧ Go (d + 3) 23 0 [some (.ref 12), some (.ref 8), none, none, none] [] (hX tN tB pF pA pT pB dN dO dV dZ dQ dU dW sN sO sV sZ sQ sU sW rN rP rK rF rR rT rL rQ mS mT mK mF mG m1 m2 wN wF yN yF iK eN eO eV eZ eQ eU eW eS eB jK fN fO fV fZ fQ fU fW fS fB h0N h0L h0C h1N h1L h1C h2N h2L h2C h3N h3L h3C) none (hX tN tB pF pA pT pB dN dO dV dZ dQ dU dW sN sO sV sZ sQ sU sW rN' rP' rK' rF' rR' rT' rL' rQ' mS mT mK mF mG m1 m2 wN wF yN yF iK eN eO eV eZ eQ eU eW eS eB jK fN fO fV fZ fQ fU fW fS fB h0N h0L h0C h1N h1L h1C h2N h2L h2C h3N h3L h3C) := by
  obtain ⟨rN', rP', rK', rF', rR', rT', rL', rQ', t, g⟩ := x_list_l (d := d) hn2 hn ho (n ^ n) 0 (tN := tN) (tB := tB) (pF := pF) (pA := pA) (pT := pT) (pB := pB) (dN := dN) (dO := dO) (dV := dV) (dZ := dZ) (dQ := dQ) (dU := dU) (dW := dW) (sN := sN) (sO := sO) (sV := sV) (sZ := sZ) (sQ := sQ) (sU := sU) (sW := sW) (rN := (0 : Int32)) (rP := rP) (rK := rK) (rF := rF) (rR := rR) (rT := rT) (rL := rL) (rQ := rQ) (mS := mS) (mT := mT) (mK := mK) (mF := mF) (mG := mG) (m1 := m1) (m2 := m2) (wN := wN) (wF := wF) (yN := yN) (yF := yF) (iK := iK) (eN := eN) (eO := eO) (eV := eV) (eZ := eZ) (eQ := eQ) (eU := eU) (eW := eW) (eS := eS) (eB := eB) (jK := jK) (fN := fN) (fO := fO) (fV := fV) (fZ := fZ) (fQ := fQ) (fU := fU) (fW := fW) (fS := fS) (fB := fB) (h0N := h0N) (h0L := h0L) (h0C := h0C) (h1N := h1N) (h1L := h1L) (h1C := h1C) (h2N := h2N) (h2L := h2L) (h2C := h2C) (h3N := h3N) (h3L := h3L) (h3C := h3C) hN hO (by omega) (Nat.zero_le _) ⟨rfl, fun r hr => by cases hr⟩
  have key : ∀ (m p : Nat), p + m = n → Go (d + 3) 23 10 [some (.ref 12), some (.ref 8), some (.int (nI n)), some (.int (nI (n ^ p))), some (.int (nI p))] [] (hX tN tB pF pA pT pB dN dO dV dZ dQ dU dW sN sO sV sZ sQ sU sW rN rP rK rF rR rT rL rQ mS mT mK mF mG m1 m2 wN wF yN yF iK eN eO eV eZ eQ eU eW eS eB jK fN fO fV fZ fQ fU fW fS fB h0N h0L h0C h1N h1L h1C h2N h2L h2C h3N h3L h3C) none (hX tN tB pF pA pT pB dN dO dV dZ dQ dU dW sN sO sV sZ sQ sU sW rN' rP' rK' rF' rR' rT' rL' rQ' mS mT mK mF mG m1 m2 wN wF yN yF iK eN eO eV eZ eQ eU eW eS eB jK fN fO fV fZ fQ fU fW fS fB h0N h0L h0C h1N h1L h1C h2N h2L h2C h3N h3L h3C) := by
    intro m
    induction m with
    | zero =>
      intro p hp
      have : p = n := by omega
      subst this
      exact b_X3_list_10 (pk_le p p (fun _ => g) (fun q => by omega))
    | succ m ih =>
      intro p hp
      refine b_X3_list_10 (pk_le n p (fun q => by omega) (fun _ => ?_))
      rw [pk_mul, nI_1, ← Nat.pow_succ]
      exact ih (p + 1) (by omega)
  have k0 := key n 0 (by omega)
  rw [← hN] at k0
  exact ⟨rN', rP', rK', rF', rR', rT', rL', rQ', t, b_X3_list_0 k0⟩
