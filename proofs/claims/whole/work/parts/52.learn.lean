/-! meaning: the class's side: words, what is learned, holdsIn -/
def kw (i : Nat) : Nat := if i = 0 then 1 else 2
/-- the facts of word i -/
def fw (i j : Nat) : Int64 := if j < 6 then ab_low.getD j 0 else if (i - 1).testBit (j - 6) then (Int64.ofNat 18446744073709551615) else 0
theorem qt_congr {gd rs gd' rs' : Nat → Int64} : ∀ k, (∀ t, t < k → gd t = gd' t ∧ rs t = rs' t) → qt_st gd rs k = qt_st gd' rs' k
  | 0, _ => rfl
  | k + 1, h => by
    have ih := qt_congr k (fun t ht => h t (by omega))
    obtain ⟨h1, h2⟩ := h k (by omega)
    unfold qt_st
    rw [ih, h1, h2]
theorem ev_congr {k n : Nat} {Q Q' : Nat → Int32} {kd : Nat → Nat → Option Nat} {en en' : Nat → (Nat → Nat) → Int64} (hkd : ∀ a j x, kd a j = some x → x < n) (hQ : ∀ x, x < n → Q x = Q' x) (h : ∀ a g, (a = 4 ∨ a < n) → (∀ p, g p < k) → en a g = en' a g) : ∀ (f a j : Nat) (g : Nat → Nat), (a = 4 ∨ a < n) → (∀ p, g p < k) → ev k Q kd en f a j g = ev k Q' kd en' f a j g
  | 0, a, j, g, ha, hg => by
    unfold ev
    cases kd a j with
    | none => exact h a g ha hg
    | some x => rfl
  | f + 1, a, j, g, ha, hg => by
    rw [ev, ev]
    cases e : kd a j with
    | none => exact h a g ha hg
    | some x =>
      have hx := hkd a j x e
      have hu : ∀ t, t < k → ∀ p, up g x t p < k := fun t ht p => by
        unfold up
        split
        · exact ht
        · exact hg p
      simp only
      rw [hQ x hx, qt_congr k (fun t ht => ⟨ev_congr hkd hQ h f x 0 _ (Or.inr hx) (hu t ht), ev_congr hkd hQ h f a (j + 1) _ ha (hu t ht)⟩)]
theorem ev_en_congr {n o k : Nat} {V : Int32} {Q U W : Nat → Int32} {F F' : Nat → Int64} (hk1 : 1 ≤ k) (hk : k ≤ 4) (hS : sn_ok n o V Q U W) (hF : ∀ j, j < wd_n k → F j = F' j) {a : Nat} {g : Nat → Nat} (ha : a = 4 ∨ a < n) (hg : ∀ p, g p < k) : ev_en n o k V U W F a g = ev_en n o k V U W F' a g := by
  obtain ⟨_, hn4, ho1, hon, hV, hp⟩ := hS
  unfold ev_en
  by_cases h4 : a = 4
  · rw [if_pos h4, if_pos h4, hF _ (wd_verb hk1 hk (bI_eq hV).2 (hg 0) (hg o)).1]
  · rw [if_neg h4, if_neg h4]
    obtain ⟨_, hU, hW⟩ := hp a (by omega)
    rw [hF _ (wd_noun (k := k) hk1 (bI_eq hU).2 (hg a)).1]
    by_cases h : a + 1 = o ∨ a + 1 = n
    · rw [if_pos h, if_pos h]
    · rw [if_neg h, if_neg h]
      rw [if_neg h] at hW
      rw [hF _ (wd_verb hk1 hk (bI_eq hW).2 (hg a) (hg (a + 1))).1]
/-- a reading's value with the facts F of k things -/
def hv (n o k : Nat) (V : Int32) (Q U W : Nat → Int32) (l : List Nat) (F : Nat → Int64) : Int64 := ev k Q (rd_kd n o l) (ev_en n o k V U W F) 4 4 0 (fun _ => 0)
theorem hv_congr {n o k : Nat} {V : Int32} {Q U W : Nat → Int32} {l : List Nat} {F F' : Nat → Int64} (hk1 : 1 ≤ k) (hk : k ≤ 4) (hS : sn_ok n o V Q U W) (hF : ∀ j, j < wd_n k → F j = F' j) : hv n o k V Q U W l F = hv n o k V Q U W l F' := ev_congr (n := n) (fun a j x h => (rd_kd_some h).1) (fun _ _ => rfl) (fun a g ha hg => ev_en_congr hk1 hk hS hF ha hg) 4 4 0 _ (Or.inl rfl) (fun _ => by omega)
/-- word i of a reading -/
def hw (n o : Nat) (V : Int32) (Q U W : Nat → Int32) (l : List Nat) (i : Nat) : Int64 := if i = 0 then hv n o (kw i) V Q U W l (fw i) &&& (Int64.ofNat 4294967295) else hv n o (kw i) V Q U W l (fw i)
theorem x_top {d n o k : Nat} {l : List Nat} (hn : n ≤ 4) (hk1 : 1 ≤ k) (hk : k ≤ 4) (hl : l ∈ rd_perms n) {tN : Int32} {tB : Nat → Int32} {pF pA pT pB dN dO dV dZ : Int32} {dQ dU dW : Nat → Int32} {sN sO sV sZ : Int32} {sQ sU sW : Nat → Int32} {rN : Int32} {rP rK rF rR rT rL rQ : Nat → Int32} {mS : Int32} {mT : Nat → Int64} {mK : Nat → Int32} {mF : Nat → Int64} {mG m1 m2 : Nat → Int32} {wN : Int32} {wF : Int64} {yN : Int32} {yF : Int64} {iK eN eO eV eZ : Int32} {eQ eU eW : Nat → Int32} {eS : Int32} {eB : Int64} {jK fN fO fV fZ : Int32} {fQ fU fW : Nat → Int32} {fS : Int32} {fB : Int64} {h0N h0L : Int32} {h0C : Nat → Int32} {h1N h1L : Int32} {h1C : Nat → Int32} {h2N h2L : Int32} {h2C : Nat → Int32} {h3N h3L : Int32} {h3C : Nat → Int32} (hS : sn_ok n o sV sQ sU sW) (hO : sO = nI o) (hM : mS = nI k) (h1 : ∀ a, a < 5 → m1 a = c1 (rd_kd n o l a 0)) (h2 : ∀ y, y < n → m2 y = c1 (rd_kd n o l (rd_pl n o l y) (rd_rk n o l y + 1))) : ∃ mG' : Nat → Int32, Go (d + 10) 10 0 [some (.ref 20), some (.ref 8), some (.int (4 : Int32)), some (.int (m1 4)), some (.int (0 : Int32))] [] (hX tN tB pF pA pT pB dN dO dV dZ dQ dU dW sN sO sV sZ sQ sU sW rN rP rK rF rR rT rL rQ mS mT mK mF mG m1 m2 wN wF yN yF iK eN eO eV eZ eQ eU eW eS eB jK fN fO fV fZ fQ fU fW fS fB h0N h0L h0C h1N h1L h1C h2N h2L h2C h3N h3L h3C) (some (.long (hv n o k sV sQ sU sW l mF))) (hX tN tB pF pA pT pB dN dO dV dZ dQ dU dW sN sO sV sZ sQ sU sW rN rP rK rF rR rT rL rQ mS mT mK mF mG' m1 m2 wN wF yN yF iK eN eO eV eZ eQ eU eW eS eB jK fN fO fV fZ fQ fU fW fS fB h0N h0L h0C h1N h1L h1C h2N h2L h2C h3N h3L h3C) := by
  obtain ⟨mG', _, g⟩ := x_walk (l := l) hn hk1 hk 4 4 0 [] (fun _ => 0) 0 d (tN := tN) (tB := tB) (pF := pF) (pA := pA) (pT := pT) (pB := pB) (dN := dN) (dO := dO) (dV := dV) (dZ := dZ) (dQ := dQ) (dU := dU) (dW := dW) (sN := sN) (sO := sO) (sV := sV) (sZ := sZ) (sQ := sQ) (sU := sU) (sW := sW) (rN := rN) (rP := rP) (rK := rK) (rF := rF) (rR := rR) (rT := rT) (rL := rL) (rQ := rQ) (mS := mS) (mT := mT) (mK := mK) (mF := mF) (mG := mG) (m1 := m1) (m2 := m2) (wN := wN) (wF := wF) (yN := yN) (yF := yF) (iK := iK) (eN := eN) (eO := eO) (eV := eV) (eZ := eZ) (eQ := eQ) (eU := eU) (eW := eW) (eS := eS) (eB := eB) (jK := jK) (fN := fN) (fO := fO) (fV := fV) (fZ := fZ) (fQ := fQ) (fU := fU) (fW := fW) (fS := fS) (fB := fB) (h0N := h0N) (h0L := h0L) (h0C := h0C) (h1N := h1N) (h1L := h1L) (h1C := h1C) (h2N := h2N) (h2L := h2L) (h2C := h2C) (h3N := h3N) (h3L := h3L) (h3C := h3C) hS hO hM h1 h2 (rd_chk_ok n (by omega) o hS.2.2.2.1 hS.2.2.1 l hl) (Or.inl rfl) rfl (fun p hp => by cases hp) (fun _ => by omega)
  rw [← h1 4 (by decide)] at g
  exact ⟨mG', g⟩
theorem ng_1 : -((1 : Int32).toInt64) = (Int64.ofNat 18446744073709551615) := by decide +kernel
theorem ng_0 : -((0 : Int32).toInt64) = (0 : Int64) := by decide +kernel
theorem x_takeWord {d i : Nat} (hi : i < 65) {tN : Int32} {tB : Nat → Int32} {pF pA pT pB dN dO dV dZ : Int32} {dQ dU dW : Nat → Int32} {sN sO sV sZ : Int32} {sQ sU sW : Nat → Int32} {rN : Int32} {rP rK rF rR rT rL rQ : Nat → Int32} {mS : Int32} {mT : Nat → Int64} {mK : Nat → Int32} {mF : Nat → Int64} {mG m1 m2 : Nat → Int32} {wN : Int32} {wF : Int64} {yN : Int32} {yF : Int64} {iK eN eO eV eZ : Int32} {eQ eU eW : Nat → Int32} {eS : Int32} {eB : Int64} {jK fN fO fV fZ : Int32} {fQ fU fW : Nat → Int32} {fS : Int32} {fB : Int64} {h0N h0L : Int32} {h0C : Nat → Int32} {h1N h1L : Int32} {h1C : Nat → Int32} {h2N h2L : Int32} {h2C : Nat → Int32} {h3N h3L : Int32} {h3C : Nat → Int32} : ∃ mF' : Nat → Int64, (∀ j, j < wd_n (kw i) → mF' j = fw i j) ∧ Go (d + 1) 9 0 [some (.ref 20), some (.int (nI i)), none] [] (hX tN tB pF pA pT pB dN dO dV dZ dQ dU dW sN sO sV sZ sQ sU sW rN rP rK rF rR rT rL rQ mS mT mK mF mG m1 m2 wN wF yN yF iK eN eO eV eZ eQ eU eW eS eB jK fN fO fV fZ fQ fU fW fS fB h0N h0L h0C h1N h1L h1C h2N h2L h2C h3N h3L h3C) none (hX tN tB pF pA pT pB dN dO dV dZ dQ dU dW sN sO sV sZ sQ sU sW rN rP rK rF rR rT rL rQ (nI (kw i)) mT mK mF' mG m1 m2 wN wF yN yF iK eN eO eV eZ eQ eU eW eS eB jK fN fO fV fZ fQ fU fW fS fB h0N h0L h0C h1N h1L h1C h2N h2L h2C h3N h3L h3C) := by
  have hk : kw i ≤ 4 := by unfold kw; split <;> omega
  have h40 := wd_n_lt hk
  have e3 : (2 : Int32) * nI (kw i) + (2 : Int32) * nI (kw i) * nI (kw i) = nI (wd_n (kw i)) := cz_3 (kw i) (by omega)
  have key : ∀ (m j : Nat) (mF : Nat → Int64), j + m = wd_n (kw i) → (∀ y, y < j → mF y = fw i y) → ∃ mF' : Nat → Int64, (∀ j, j < wd_n (kw i) → mF' j = fw i j) ∧ Go (d + 1) 9 15 [some (.ref 20), some (.int (nI i)), some (.int (nI j))] [] (hX tN tB pF pA pT pB dN dO dV dZ dQ dU dW sN sO sV sZ sQ sU sW rN rP rK rF rR rT rL rQ (nI (kw i)) mT mK mF mG m1 m2 wN wF yN yF iK eN eO eV eZ eQ eU eW eS eB jK fN fO fV fZ fQ fU fW fS fB h0N h0L h0C h1N h1L h1C h2N h2L h2C h3N h3L h3C) none (hX tN tB pF pA pT pB dN dO dV dZ dQ dU dW sN sO sV sZ sQ sU sW rN rP rK rF rR rT rL rQ (nI (kw i)) mT mK mF' mG m1 m2 wN wF yN yF iK eN eO eV eZ eQ eU eW eS eB jK fN fO fV fZ fQ fU fW fS fB h0N h0L h0C h1N h1L h1C h2N h2L h2C h3N h3L h3C) := by
    intro m
    induction m with
    | zero =>
      intro j mF hj hF
      exact ⟨mF, fun y hy => hF y (by omega), b_X1_takeWord_15 (pk_le (wd_n (kw i)) j (fun _ => ⟨rfl, rfl⟩) (fun z => by omega) e3)⟩
    | succ m ih =>
      intro j mF hj hF
      obtain ⟨mF', p1, p2⟩ := ih (j + 1) (vp_updL mF j (fw i j)) (by omega) (fun y hy => by
        by_cases e : y = j
        · subst e; rw [pk_uLs]
        · rw [pk_uLn e]; exact hF y (by omega))
      refine ⟨mF', p1, b_X1_takeWord_15 (pk_le (wd_n (kw i)) j (fun z => by omega) (fun _ => pk_le 6 j (fun h6 => ⟨j, rfl, by omega, ?_⟩) (fun h6 => ⟨j, rfl, by omega, j, rfl, by omega, ?_⟩)) e3)⟩
      · have hi1 : 1 ≤ i := by
          refine Nat.one_le_iff_ne_zero.mpr (fun z => ?_)
          subst z
          have : wd_n (kw 0) = 4 := rfl
          omega
        have h12 : wd_n (kw i) = 12 := by unfold kw; rw [if_neg (by omega)]; rfl
        have a1 : nI i - (1 : Int32) = nI (i - 1) := pk_sub (a := i) (b := 1) hi1
        have a2 : nI j - (6 : Int32) = nI (j - 6) := pk_sub (a := j) (b := 6) h6
        have a3 := cz_4 (w := i - 1) (j := j - 6) (by omega) (by omega)
        rw [a1, a2, a3, nI_1]
        have a4 : -((if (i - 1).testBit (j - 6) = true then (1 : Int32) else 0).toInt64) = fw i j := by
          unfold fw
          rw [if_neg (show ¬ j < 6 by omega)]
          by_cases hb : (i - 1).testBit (j - 6) = true
          · rw [if_pos hb, if_pos hb]; exact ng_1
          · rw [if_neg hb, if_neg hb]; exact ng_0
        rw [a4]
        exact p2
      · rw [nI_1]
        have a4 : ab_low.getD j 0 = fw i j := by unfold fw; rw [if_pos h6]
        rw [a4]
        exact p2
  obtain ⟨mF', p1, p2⟩ := key (wd_n (kw i)) 0 mF (by omega) (fun y hy => by omega)
  refine ⟨mF', p1, b_X1_takeWord_0 ⟨fun q => ?_, fun q => ?_⟩⟩
  · have : kw i = 2 := by
      unfold kw
      rw [if_neg (fun z => q (by rw [z]; rfl))]
    rw [this] at p2 ⊢
    exact p2
  · have : kw i = 1 := by
      unfold kw
      rw [if_pos ((nI_eq (a := i) (b := 0) (by omega) (by omega)).mp q)]
    rw [this] at p2 ⊢
    exact p2
/-- what is known is right -/
def mt_X (n o : Nat) (V : Int32) (Q U W : Nat → Int32) (mK : Nat → Int32) (mT : Nat → Int64) : Prop := ∀ r, r < (rd_RD n o).length → mK r = 0 ∨ (mK r = 1 ∧ ∀ i, i < 65 → mT (65 * r + i) = hw n o V Q U W ((rd_RD n o).getD r []) i)
theorem rd_RD_24 (n o : Nat) : (rd_RD n o).length ≤ 24 := Nat.le_trans (rd_acc_len n o _) (rd_perms_len n)
theorem rd_RD_mem {n o r : Nat} (hr : r < (rd_RD n o).length) : (rd_RD n o).getD r [] ∈ rd_perms n := rd_acc_get (Nat.le_refl _) hr
theorem ix65 (r i : Nat) : nI r * (65 : Int32) + nI i = nI (65 * r + i) := by
  show nI r * nI 65 + nI i = _
  rw [pk_mul, nI_add, Nat.mul_comm]
theorem x_learn_33 {d n o r : Nat} {l : List Nat} (hn : n ≤ 4) (hr : r < 24) (hl : l ∈ rd_perms n) : ∀ (m i : Nat) {tN : Int32} {tB : Nat → Int32} {pF pA pT pB dN dO dV dZ : Int32} {dQ dU dW : Nat → Int32} {sN sO sV sZ : Int32} {sQ sU sW : Nat → Int32} {rN : Int32} {rP rK rF rR rT rL rQ : Nat → Int32} {mS : Int32} {mT : Nat → Int64} {mK : Nat → Int32} {mF : Nat → Int64} {mG m1 m2 : Nat → Int32} {wN : Int32} {wF : Int64} {yN : Int32} {yF : Int64} {iK eN eO eV eZ : Int32} {eQ eU eW : Nat → Int32} {eS : Int32} {eB : Int64} {jK fN fO fV fZ : Int32} {fQ fU fW : Nat → Int32} {fS : Int32} {fB : Int64} {h0N h0L : Int32} {h0C : Nat → Int32} {h1N h1L : Int32} {h1C : Nat → Int32} {h2N h2L : Int32} {h2C : Nat → Int32} {h3N h3L : Int32} {h3C : Nat → Int32}, sn_ok n o sV sQ sU sW → sO = nI o → (∀ a, a < 5 → m1 a = c1 (rd_kd n o l a 0)) → (∀ y, y < n → m2 y = c1 (rd_kd n o l (rd_pl n o l y) (rd_rk n o l y + 1))) → i + m = 65 → ∃ (mS' : Int32) (mF' mT' : Nat → Int64) (mG' : Nat → Int32), (∀ j, i ≤ j → j < 65 → mT' (65 * r + j) = hw n o sV sQ sU sW l j) ∧ (∀ c, (c < 65 * r + i ∨ 65 * r + 65 ≤ c) → mT' c = mT c) ∧ Go (d + 11) 4 33 [some (.ref 20), some (.ref 8), some (.ref 12), some (.int (nI r)), some (.int (nI i)), none, none] [] (hX tN tB pF pA pT pB dN dO dV dZ dQ dU dW sN sO sV sZ sQ sU sW rN rP rK rF rR rT rL rQ mS mT mK mF mG m1 m2 wN wF yN yF iK eN eO eV eZ eQ eU eW eS eB jK fN fO fV fZ fQ fU fW fS fB h0N h0L h0C h1N h1L h1C h2N h2L h2C h3N h3L h3C) none (hX tN tB pF pA pT pB dN dO dV dZ dQ dU dW sN sO sV sZ sQ sU sW rN rP rK rF rR rT rL rQ mS' mT' (upd mK r 1) mF' mG' m1 m2 wN wF yN yF iK eN eO eV eZ eQ eU eW eS eB jK fN fO fV fZ fQ fU fW fS fB h0N h0L h0C h1N h1L h1C h2N h2L h2C h3N h3L h3C)
  | 0, i, tN, tB, pF, pA, pT, pB, dN, dO, dV, dZ, dQ, dU, dW, sN, sO, sV, sZ, sQ, sU, sW, rN, rP, rK, rF, rR, rT, rL, rQ, mS, mT, mK, mF, mG, m1, m2, wN, wF, yN, yF, iK, eN, eO, eV, eZ, eQ, eU, eW, eS, eB, jK, fN, fO, fV, fZ, fQ, fU, fW, fS, fB, h0N, h0L, h0C, h1N, h1L, h1C, h2N, h2L, h2C, h3N, h3L, h3C, hS, hO, h1, h2, hi => ⟨mS, mF, mT, mG, fun j a b => by omega, fun _ _ => rfl, b_X1_learn_33 (pk_le 65 i (fun _ => ⟨r, rfl, hr, rfl, rfl⟩) (fun z => by omega))⟩
  | m + 1, i, tN, tB, pF, pA, pT, pB, dN, dO, dV, dZ, dQ, dU, dW, sN, sO, sV, sZ, sQ, sU, sW, rN, rP, rK, rF, rR, rT, rL, rQ, mS, mT, mK, mF, mG, m1, m2, wN, wF, yN, yF, iK, eN, eO, eV, eZ, eQ, eU, eW, eS, eB, jK, fN, fO, fV, fZ, fQ, fU, fW, fS, fB, h0N, h0L, h0C, h1N, h1L, h1C, h2N, h2L, h2C, h3N, h3L, h3C, hS, hO, h1, h2, hi => by
    obtain ⟨mF1, a1, a2⟩ := x_takeWord (d := d + 9) (i := i) (by omega) (tN := tN) (tB := tB) (pF := pF) (pA := pA) (pT := pT) (pB := pB) (dN := dN) (dO := dO) (dV := dV) (dZ := dZ) (dQ := dQ) (dU := dU) (dW := dW) (sN := sN) (sO := sO) (sV := sV) (sZ := sZ) (sQ := sQ) (sU := sU) (sW := sW) (rN := rN) (rP := rP) (rK := rK) (rF := rF) (rR := rR) (rT := rT) (rL := rL) (rQ := rQ) (mS := mS) (mT := mT) (mK := mK) (mF := mF) (mG := mG) (m1 := m1) (m2 := m2) (wN := wN) (wF := wF) (yN := yN) (yF := yF) (iK := iK) (eN := eN) (eO := eO) (eV := eV) (eZ := eZ) (eQ := eQ) (eU := eU) (eW := eW) (eS := eS) (eB := eB) (jK := jK) (fN := fN) (fO := fO) (fV := fV) (fZ := fZ) (fQ := fQ) (fU := fU) (fW := fW) (fS := fS) (fB := fB) (h0N := h0N) (h0L := h0L) (h0C := h0C) (h1N := h1N) (h1L := h1L) (h1C := h1C) (h2N := h2N) (h2L := h2L) (h2C := h2C) (h3N := h3N) (h3L := h3L) (h3C := h3C)
    have hk1 : 1 ≤ kw i := by unfold kw; split <;> omega
    have hk4 : kw i ≤ 4 := by unfold kw; split <;> omega
    obtain ⟨mG1, b1⟩ := x_top (d := d) (k := kw i) hn hk1 hk4 hl (tN := tN) (tB := tB) (pF := pF) (pA := pA) (pT := pT) (pB := pB) (dN := dN) (dO := dO) (dV := dV) (dZ := dZ) (dQ := dQ) (dU := dU) (dW := dW) (sN := sN) (sO := sO) (sV := sV) (sZ := sZ) (sQ := sQ) (sU := sU) (sW := sW) (rN := rN) (rP := rP) (rK := rK) (rF := rF) (rR := rR) (rT := rT) (rL := rL) (rQ := rQ) (mS := (nI (kw i))) (mT := mT) (mK := mK) (mF := mF1) (mG := mG) (m1 := m1) (m2 := m2) (wN := wN) (wF := wF) (yN := yN) (yF := yF) (iK := iK) (eN := eN) (eO := eO) (eV := eV) (eZ := eZ) (eQ := eQ) (eU := eU) (eW := eW) (eS := eS) (eB := eB) (jK := jK) (fN := fN) (fO := fO) (fV := fV) (fZ := fZ) (fQ := fQ) (fU := fU) (fW := fW) (fS := fS) (fB := fB) (h0N := h0N) (h0L := h0L) (h0C := h0C) (h1N := h1N) (h1L := h1L) (h1C := h1C) (h2N := h2N) (h2L := h2L) (h2C := h2C) (h3N := h3N) (h3L := h3L) (h3C := h3C) hS hO rfl h1 h2
    rw [hv_congr hk1 hk4 hS a1] at b1
    have hfin : ∀ mT1 : Nat → Int64, mT1 = vp_updL mT (65 * r + i) (hw n o sV sQ sU sW l i) → ∃ (mS' : Int32) (mF' mT' : Nat → Int64) (mG' : Nat → Int32), (∀ j, i ≤ j → j < 65 → mT' (65 * r + j) = hw n o sV sQ sU sW l j) ∧ (∀ c, (c < 65 * r + i ∨ 65 * r + 65 ≤ c) → mT' c = mT c) ∧ Go (d + 11) 4 33 [some (.ref 20), some (.ref 8), some (.ref 12), some (.int (nI r)), some (.int (nI (i + 1))), none, none] [] (hX tN tB pF pA pT pB dN dO dV dZ dQ dU dW sN sO sV sZ sQ sU sW rN rP rK rF rR rT rL rQ (nI (kw i)) mT1 mK mF1 mG1 m1 m2 wN wF yN yF iK eN eO eV eZ eQ eU eW eS eB jK fN fO fV fZ fQ fU fW fS fB h0N h0L h0C h1N h1L h1C h2N h2L h2C h3N h3L h3C) none (hX tN tB pF pA pT pB dN dO dV dZ dQ dU dW sN sO sV sZ sQ sU sW rN rP rK rF rR rT rL rQ mS' mT' (upd mK r 1) mF' mG' m1 m2 wN wF yN yF iK eN eO eV eZ eQ eU eW eS eB jK fN fO fV fZ fQ fU fW fS fB h0N h0L h0C h1N h1L h1C h2N h2L h2C h3N h3L h3C) := by
      intro mT1 hT
      obtain ⟨mS', mF', mT', mG', c1, c2, c3⟩ := x_learn_33 (d := d) hn hr hl m (i + 1) (tN := tN) (tB := tB) (pF := pF) (pA := pA) (pT := pT) (pB := pB) (dN := dN) (dO := dO) (dV := dV) (dZ := dZ) (dQ := dQ) (dU := dU) (dW := dW) (sN := sN) (sO := sO) (sV := sV) (sZ := sZ) (sQ := sQ) (sU := sU) (sW := sW) (rN := rN) (rP := rP) (rK := rK) (rF := rF) (rR := rR) (rT := rT) (rL := rL) (rQ := rQ) (mS := (nI (kw i))) (mT := mT1) (mK := mK) (mF := mF1) (mG := mG1) (m1 := m1) (m2 := m2) (wN := wN) (wF := wF) (yN := yN) (yF := yF) (iK := iK) (eN := eN) (eO := eO) (eV := eV) (eZ := eZ) (eQ := eQ) (eU := eU) (eW := eW) (eS := eS) (eB := eB) (jK := jK) (fN := fN) (fO := fO) (fV := fV) (fZ := fZ) (fQ := fQ) (fU := fU) (fW := fW) (fS := fS) (fB := fB) (h0N := h0N) (h0L := h0L) (h0C := h0C) (h1N := h1N) (h1L := h1L) (h1C := h1C) (h2N := h2N) (h2L := h2L) (h2C := h2C) (h3N := h3N) (h3L := h3L) (h3C := h3C) hS hO h1 h2 (by omega)
      refine ⟨mS', mF', mT', mG', fun j q1 q2 => ?_, fun c hc => ?_, c3⟩
      · by_cases e : j = i
        · subst e; rw [c2 _ (by omega), hT, pk_uLs]
        · exact c1 j (by omega) q2
      · rw [c2 c (by omega), hT, pk_uLn (by omega)]
    by_cases h0 : i = 0
    · subst h0
      obtain ⟨mS', mF', mT', mG', c1, c2, c3⟩ := hfin (vp_updL mT (65 * r + 0) (hv n o (kw 0) sV sQ sU sW l (fw 0) &&& (Int64.ofNat 4294967295))) (by unfold hw; rw [if_pos rfl])
      refine ⟨mS', mF', mT', mG', c1, c2, b_X1_learn_33 (pk_le 65 0 (fun z => by omega) (fun _ => ⟨_, mF1, a2, _, mG1, b1, ny rfl ⟨65 * r + 0, ix65 r 0, by omega, ?_⟩⟩))⟩
      rw [nI_1]
      exact c3
    · obtain ⟨mS', mF', mT', mG', c1, c2, c3⟩ := hfin (vp_updL mT (65 * r + i) (hv n o (kw i) sV sQ sU sW l (fw i))) (by unfold hw; rw [if_neg h0])
      refine ⟨mS', mF', mT', mG', c1, c2, b_X1_learn_33 (pk_le 65 i (fun z => by omega) (fun _ => ⟨_, mF1, a2, _, mG1, b1, nn (nI_ne0 (by omega) (by omega)) ⟨65 * r + i, ix65 r i, by omega, ?_⟩⟩))⟩
      rw [nI_1]
      exact c3
theorem x_learn {d n o r : Nat} (hr : r < (rd_RD n o).length) {tN : Int32} {tB : Nat → Int32} {pF pA pT pB dN dO dV dZ : Int32} {dQ dU dW : Nat → Int32} {sN sO sV sZ : Int32} {sQ sU sW : Nat → Int32} {rN : Int32} {rP rK rF rR rT rL rQ : Nat → Int32} {mS : Int32} {mT : Nat → Int64} {mK : Nat → Int32} {mF : Nat → Int64} {mG m1 m2 : Nat → Int32} {wN : Int32} {wF : Int64} {yN : Int32} {yF : Int64} {iK eN eO eV eZ : Int32} {eQ eU eW : Nat → Int32} {eS : Int32} {eB : Int64} {jK fN fO fV fZ : Int32} {fQ fU fW : Nat → Int32} {fS : Int32} {fB : Int64} {h0N h0L : Int32} {h0C : Nat → Int32} {h1N h1L : Int32} {h1C : Nat → Int32} {h2N h2L : Int32} {h2C : Nat → Int32} {h3N h3L : Int32} {h3C : Nat → Int32} (hS : sn_ok n o sV sQ sU sW) (hN : sN = nI n) (hO : sO = nI o) (T : tb_X n o (rd_RD n o) rN rP rK rF) (K : mt_X n o sV sQ sU sW mK mT) : ∃ (mS' : Int32) (mT' mF' : Nat → Int64) (mK' mG' m1' m2' : Nat → Int32), mt_X n o sV sQ sU sW mK' mT' ∧ mK' r = 1 ∧ (∀ q, q < (rd_RD n o).length → mK q = 1 → mK' q = 1) ∧ Go (d + 11) 4 0 [some (.ref 20), some (.ref 8), some (.ref 12), some (.int (nI r)), none, none, none] [] (hX tN tB pF pA pT pB dN dO dV dZ dQ dU dW sN sO sV sZ sQ sU sW rN rP rK rF rR rT rL rQ mS mT mK mF mG m1 m2 wN wF yN yF iK eN eO eV eZ eQ eU eW eS eB jK fN fO fV fZ fQ fU fW fS fB h0N h0L h0C h1N h1L h1C h2N h2L h2C h3N h3L h3C) none (hX tN tB pF pA pT pB dN dO dV dZ dQ dU dW sN sO sV sZ sQ sU sW rN rP rK rF rR rT rL rQ mS' mT' mK' mF' mG' m1' m2' wN wF yN yF iK eN eO eV eZ eQ eU eW eS eB jK fN fO fV fZ fQ fU fW fS fB h0N h0L h0C h1N h1L h1C h2N h2L h2C h3N h3L h3C) := by
  have hn : n ≤ 4 := hS.2.1
  have h24 := rd_RD_24 n o
  rcases K r hr with k0 | ⟨k1, _⟩
  · obtain ⟨m1', m2', a1, a2, a3⟩ := x_takeShape (d := d + 10) (n := n) (o := o) (r := r) (l := (rd_RD n o).getD r []) hn (by omega) (tN := tN) (tB := tB) (pF := pF) (pA := pA) (pT := pT) (pB := pB) (dN := dN) (dO := dO) (dV := dV) (dZ := dZ) (dQ := dQ) (dU := dU) (dW := dW) (sN := sN) (sO := sO) (sV := sV) (sZ := sZ) (sQ := sQ) (sU := sU) (sW := sW) (rN := rN) (rP := rP) (rK := rK) (rF := rF) (rR := rR) (rT := rT) (rL := rL) (rQ := rQ) (mS := mS) (mT := mT) (mK := mK) (mF := mF) (mG := mG) (m1 := m1) (m2 := m2) (wN := wN) (wF := wF) (yN := yN) (yF := yF) (iK := iK) (eN := eN) (eO := eO) (eV := eV) (eZ := eZ) (eQ := eQ) (eU := eU) (eW := eW) (eS := eS) (eB := eB) (jK := jK) (fN := fN) (fO := fO) (fV := fV) (fZ := fZ) (fQ := fQ) (fU := fU) (fW := fW) (fS := fS) (fB := fB) (h0N := h0N) (h0L := h0L) (h0C := h0C) (h1N := h1N) (h1L := h1L) (h1C := h1C) (h2N := h2N) (h2L := h2L) (h2C := h2C) (h3N := h3N) (h3L := h3L) (h3C := h3C) (fun y hy => ⟨(T.2 r hr y hy).1, (T.2 r hr y hy).2.1⟩)
    obtain ⟨mS', mF', mT', mG', b1, b2, b3⟩ := x_learn_33 (d := d) (r := r) hn (by omega) (rd_RD_mem hr) 65 0 (tN := tN) (tB := tB) (pF := pF) (pA := pA) (pT := pT) (pB := pB) (dN := dN) (dO := dO) (dV := dV) (dZ := dZ) (dQ := dQ) (dU := dU) (dW := dW) (sN := sN) (sO := sO) (sV := sV) (sZ := sZ) (sQ := sQ) (sU := sU) (sW := sW) (rN := rN) (rP := rP) (rK := rK) (rF := rF) (rR := rR) (rT := rT) (rL := rL) (rQ := rQ) (mS := mS) (mT := mT) (mK := mK) (mF := mF) (mG := mG) (m1 := m1') (m2 := m2') (wN := wN) (wF := wF) (yN := yN) (yF := yF) (iK := iK) (eN := eN) (eO := eO) (eV := eV) (eZ := eZ) (eQ := eQ) (eU := eU) (eW := eW) (eS := eS) (eB := eB) (jK := jK) (fN := fN) (fO := fO) (fV := fV) (fZ := fZ) (fQ := fQ) (fU := fU) (fW := fW) (fS := fS) (fB := fB) (h0N := h0N) (h0L := h0L) (h0C := h0C) (h1N := h1N) (h1L := h1L) (h1C := h1C) (h2N := h2N) (h2L := h2L) (h2C := h2C) (h3N := h3N) (h3L := h3L) (h3C := h3C) hS hO a1 a2 rfl
    refine ⟨mS', mT', mF', upd mK r 1, mG', m1', m2', fun q hq => ?_, pk_us, fun q hq h1 => ?_, b_X1_learn_0 (x_ge0 r (pk_le 24 r (fun z => by omega) (fun _ => ⟨r, rfl, by omega, cy k0 ⟨m1', m2', by rw [hN]; rw [hN] at a3; exact a3, b3⟩⟩)))⟩
    · by_cases e : q = r
      · subst e
        exact Or.inr ⟨pk_us, fun i hi => b1 i (by omega) hi⟩
      · rw [pk_un e]
        rcases K q hq with z | ⟨z1, z2⟩
        · exact Or.inl z
        · exact Or.inr ⟨z1, fun i hi => by rw [b2 _ (by omega)]; exact z2 i hi⟩
    · by_cases e : q = r
      · subst e; exact pk_us
      · rw [pk_un e]; exact h1
  · exact ⟨mS, mT, mF, mK, mG, m1, m2, K, k1, fun _ _ h => h, b_X1_learn_0 (x_ge0 r (pk_le 24 r (fun z => by omega) (fun _ => ⟨r, rfl, by omega, cn (by rw [k1]; decide) ⟨rfl, rfl⟩⟩)))⟩
