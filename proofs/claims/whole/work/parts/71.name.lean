/-! the text: the class's names -/
theorem x_spells_0 {d q e T : Nat} {t : Nat → Nat} {tN : Int32} {tB : Nat → Int32} {pF pA pT pB dN dO dV dZ : Int32} {dQ dU dW : Nat → Int32} {sN sO sV sZ : Int32} {sQ sU sW : Nat → Int32} {rN : Int32} {rP rK rF rR rT rL rQ : Nat → Int32} {mS : Int32} {mT : Nat → Int64} {mK : Nat → Int32} {mF : Nat → Int64} {mG m1 m2 : Nat → Int32} {wN : Int32} {wF : Int64} {yN : Int32} {yF : Int64} {iK eN eO eV eZ : Int32} {eQ eU eW : Nat → Int32} {eS : Int32} {eB : Int64} {jK fN fO fV fZ : Int32} {fQ fU fW : Nat → Int32} {fS : Int32} {fB : Int64} {h0N h0L : Int32} {h0C : Nat → Int32} {h1N h1L : Int32} {h1C : Nat → Int32} {h2N h2L : Int32} {h2C : Nat → Int32} {h3N h3L : Int32} {h3C : Nat → Int32} (hT : T ≤ 200) (h1 : tN = nI T) (h2 : ∀ j, j < T → tB j = nI (t j) ∧ t j < 128) (hq : q ≤ e) (he : e ≤ T) : Go (d + 2) 48 0 [some (.ref 1), some (.int (nI q)), some (.int (nI e)), some (.ref 900), none] [] (hX tN tB pF pA pT pB dN dO dV dZ dQ dU dW sN sO sV sZ sQ sU sW rN rP rK rF rR rT rL rQ mS mT mK mF mG m1 m2 wN wF yN yF iK eN eO eV eZ eQ eU eW eS eB jK fN fO fV fZ fQ fU fW fS fB h0N h0L h0C h1N h1L h1C h2N h2L h2C h3N h3L h3C) (some (.int (if mtw t q e (wds.getD 0 []) = true then 1 else 0))) (hX tN tB pF pA pT pB dN dO dV dZ dQ dU dW sN sO sV sZ sQ sU sW rN rP rK rF rR rT rL rQ mS mT mK mF mG m1 m2 wN wF yN yF iK eN eO eV eZ eQ eU eW eS eB jK fN fO fV fZ fQ fU fW fS fB h0N h0L h0C h1N h1L h1C h2N h2L h2C h3N h3L h3C) := by
  have ch : ∀ i, i < 4 → ab_ch 0 i = nI ((wds.getD 0 []).getD i 0) ∧ (wds.getD 0 []).getD i 0 < 128 := by decide +kernel
  have hl : (wds.getD 0 []).length = 4 := rfl
  have key : ∀ (m i : Nat), i + m = 4 → e = q + 4 → Go (d + 2) 48 27 [some (.ref 1), some (.int (nI q)), some (.int (nI e)), some (.ref 900), some (.int (nI (q + i)))] [] (hX tN tB pF pA pT pB dN dO dV dZ dQ dU dW sN sO sV sZ sQ sU sW rN rP rK rF rR rT rL rQ mS mT mK mF mG m1 m2 wN wF yN yF iK eN eO eV eZ eQ eU eW eS eB jK fN fO fV fZ fQ fU fW fS fB h0N h0L h0C h1N h1L h1C h2N h2L h2C h3N h3L h3C) (some (.int (if al (fun i => decide (t (q + i) = (wds.getD 0 []).getD i 0)) m i = true then 1 else 0))) (hX tN tB pF pA pT pB dN dO dV dZ dQ dU dW sN sO sV sZ sQ sU sW rN rP rK rF rR rT rL rQ mS mT mK mF mG m1 m2 wN wF yN yF iK eN eO eV eZ eQ eU eW eS eB jK fN fO fV fZ fQ fU fW fS fB h0N h0L h0C h1N h1L h1C h2N h2L h2C h3N h3L h3C) := by
    intro m
    induction m with
    | zero =>
      intro i hi hqe
      exact b_X6_spells_0_27 (pk_le e (q + i) (fun _ => ⟨rfl, rfl⟩) (fun z => by omega))
    | succ m ih =>
      intro i hi hqe
      obtain ⟨c1, c2⟩ := ch i (by omega)
      obtain ⟨b1, b2⟩ := h2 (q + i) (by omega)
      have es : nI (q + i) - nI q = nI i := by rw [pk_sub (by omega)]; congr 1; omega
      unfold al
      refine b_X6_spells_0_27 (pk_le e (q + i) (fun z => by omega) (fun _ => ⟨q + i, rfl, by omega, i, es, by omega, ?_⟩))
      rw [c1, b1, nI_1, Nat.add_assoc]
      by_cases h : t (q + i) = (wds.getD 0 []).getD i 0
      · rw [decide_eq_true h, Bool.true_and, h]
        exact cy rfl (ih (i + 1) (by omega) hqe)
      · rw [decide_eq_false h, Bool.false_and]
        exact cn (fun z => h ((nI_eq (by omega) (by omega)).mp z)) ⟨rfl, rfl⟩
  have es : nI e - nI q = nI (e - q) := pk_sub hq
  refine b_X6_spells_0_0 (cn (nI_pos (by omega)) (pk_lt T e (fun z => by omega) (fun _ => ?_) h1))
  rw [es]
  by_cases h : e - q = 4
  · have hm : mtw t q e (wds.getD 0 []) = al (fun i => decide (t (q + i) = (wds.getD 0 []).getD i 0)) 4 0 := by
      unfold mtw
      rw [hl, decide_eq_true h, Bool.true_and]
    rw [hm, h]
    exact cy rfl (key 4 0 rfl (by omega))
  · have hm : mtw t q e (wds.getD 0 []) = false := by
      unfold mtw
      rw [hl, decide_eq_false h, Bool.false_and]
    rw [hm]
    exact cn (fun z => h ((nI_eq (b := 4) (by omega) (by decide)).mp z)) ⟨rfl, rfl⟩
theorem x_spells_1 {d q e T : Nat} {t : Nat → Nat} {tN : Int32} {tB : Nat → Int32} {pF pA pT pB dN dO dV dZ : Int32} {dQ dU dW : Nat → Int32} {sN sO sV sZ : Int32} {sQ sU sW : Nat → Int32} {rN : Int32} {rP rK rF rR rT rL rQ : Nat → Int32} {mS : Int32} {mT : Nat → Int64} {mK : Nat → Int32} {mF : Nat → Int64} {mG m1 m2 : Nat → Int32} {wN : Int32} {wF : Int64} {yN : Int32} {yF : Int64} {iK eN eO eV eZ : Int32} {eQ eU eW : Nat → Int32} {eS : Int32} {eB : Int64} {jK fN fO fV fZ : Int32} {fQ fU fW : Nat → Int32} {fS : Int32} {fB : Int64} {h0N h0L : Int32} {h0C : Nat → Int32} {h1N h1L : Int32} {h1C : Nat → Int32} {h2N h2L : Int32} {h2C : Nat → Int32} {h3N h3L : Int32} {h3C : Nat → Int32} (hT : T ≤ 200) (h1 : tN = nI T) (h2 : ∀ j, j < T → tB j = nI (t j) ∧ t j < 128) (hq : q ≤ e) (he : e ≤ T) : Go (d + 2) 48 0 [some (.ref 1), some (.int (nI q)), some (.int (nI e)), some (.ref 901), none] [] (hX tN tB pF pA pT pB dN dO dV dZ dQ dU dW sN sO sV sZ sQ sU sW rN rP rK rF rR rT rL rQ mS mT mK mF mG m1 m2 wN wF yN yF iK eN eO eV eZ eQ eU eW eS eB jK fN fO fV fZ fQ fU fW fS fB h0N h0L h0C h1N h1L h1C h2N h2L h2C h3N h3L h3C) (some (.int (if mtw t q e (wds.getD 1 []) = true then 1 else 0))) (hX tN tB pF pA pT pB dN dO dV dZ dQ dU dW sN sO sV sZ sQ sU sW rN rP rK rF rR rT rL rQ mS mT mK mF mG m1 m2 wN wF yN yF iK eN eO eV eZ eQ eU eW eS eB jK fN fO fV fZ fQ fU fW fS fB h0N h0L h0C h1N h1L h1C h2N h2L h2C h3N h3L h3C) := by
  have ch : ∀ i, i < 5 → ab_ch 1 i = nI ((wds.getD 1 []).getD i 0) ∧ (wds.getD 1 []).getD i 0 < 128 := by decide +kernel
  have hl : (wds.getD 1 []).length = 5 := rfl
  have key : ∀ (m i : Nat), i + m = 5 → e = q + 5 → Go (d + 2) 48 27 [some (.ref 1), some (.int (nI q)), some (.int (nI e)), some (.ref 901), some (.int (nI (q + i)))] [] (hX tN tB pF pA pT pB dN dO dV dZ dQ dU dW sN sO sV sZ sQ sU sW rN rP rK rF rR rT rL rQ mS mT mK mF mG m1 m2 wN wF yN yF iK eN eO eV eZ eQ eU eW eS eB jK fN fO fV fZ fQ fU fW fS fB h0N h0L h0C h1N h1L h1C h2N h2L h2C h3N h3L h3C) (some (.int (if al (fun i => decide (t (q + i) = (wds.getD 1 []).getD i 0)) m i = true then 1 else 0))) (hX tN tB pF pA pT pB dN dO dV dZ dQ dU dW sN sO sV sZ sQ sU sW rN rP rK rF rR rT rL rQ mS mT mK mF mG m1 m2 wN wF yN yF iK eN eO eV eZ eQ eU eW eS eB jK fN fO fV fZ fQ fU fW fS fB h0N h0L h0C h1N h1L h1C h2N h2L h2C h3N h3L h3C) := by
    intro m
    induction m with
    | zero =>
      intro i hi hqe
      exact b_X6_spells_1_27 (pk_le e (q + i) (fun _ => ⟨rfl, rfl⟩) (fun z => by omega))
    | succ m ih =>
      intro i hi hqe
      obtain ⟨c1, c2⟩ := ch i (by omega)
      obtain ⟨b1, b2⟩ := h2 (q + i) (by omega)
      have es : nI (q + i) - nI q = nI i := by rw [pk_sub (by omega)]; congr 1; omega
      unfold al
      refine b_X6_spells_1_27 (pk_le e (q + i) (fun z => by omega) (fun _ => ⟨q + i, rfl, by omega, i, es, by omega, ?_⟩))
      rw [c1, b1, nI_1, Nat.add_assoc]
      by_cases h : t (q + i) = (wds.getD 1 []).getD i 0
      · rw [decide_eq_true h, Bool.true_and, h]
        exact cy rfl (ih (i + 1) (by omega) hqe)
      · rw [decide_eq_false h, Bool.false_and]
        exact cn (fun z => h ((nI_eq (by omega) (by omega)).mp z)) ⟨rfl, rfl⟩
  have es : nI e - nI q = nI (e - q) := pk_sub hq
  refine b_X6_spells_1_0 (cn (nI_pos (by omega)) (pk_lt T e (fun z => by omega) (fun _ => ?_) h1))
  rw [es]
  by_cases h : e - q = 5
  · have hm : mtw t q e (wds.getD 1 []) = al (fun i => decide (t (q + i) = (wds.getD 1 []).getD i 0)) 5 0 := by
      unfold mtw
      rw [hl, decide_eq_true h, Bool.true_and]
    rw [hm, h]
    exact cy rfl (key 5 0 rfl (by omega))
  · have hm : mtw t q e (wds.getD 1 []) = false := by
      unfold mtw
      rw [hl, decide_eq_false h, Bool.false_and]
    rw [hm]
    exact cn (fun z => h ((nI_eq (b := 5) (by omega) (by decide)).mp z)) ⟨rfl, rfl⟩
theorem x_spells_2 {d q e T : Nat} {t : Nat → Nat} {tN : Int32} {tB : Nat → Int32} {pF pA pT pB dN dO dV dZ : Int32} {dQ dU dW : Nat → Int32} {sN sO sV sZ : Int32} {sQ sU sW : Nat → Int32} {rN : Int32} {rP rK rF rR rT rL rQ : Nat → Int32} {mS : Int32} {mT : Nat → Int64} {mK : Nat → Int32} {mF : Nat → Int64} {mG m1 m2 : Nat → Int32} {wN : Int32} {wF : Int64} {yN : Int32} {yF : Int64} {iK eN eO eV eZ : Int32} {eQ eU eW : Nat → Int32} {eS : Int32} {eB : Int64} {jK fN fO fV fZ : Int32} {fQ fU fW : Nat → Int32} {fS : Int32} {fB : Int64} {h0N h0L : Int32} {h0C : Nat → Int32} {h1N h1L : Int32} {h1C : Nat → Int32} {h2N h2L : Int32} {h2C : Nat → Int32} {h3N h3L : Int32} {h3C : Nat → Int32} (hT : T ≤ 200) (h1 : tN = nI T) (h2 : ∀ j, j < T → tB j = nI (t j) ∧ t j < 128) (hq : q ≤ e) (he : e ≤ T) : Go (d + 2) 48 0 [some (.ref 1), some (.int (nI q)), some (.int (nI e)), some (.ref 902), none] [] (hX tN tB pF pA pT pB dN dO dV dZ dQ dU dW sN sO sV sZ sQ sU sW rN rP rK rF rR rT rL rQ mS mT mK mF mG m1 m2 wN wF yN yF iK eN eO eV eZ eQ eU eW eS eB jK fN fO fV fZ fQ fU fW fS fB h0N h0L h0C h1N h1L h1C h2N h2L h2C h3N h3L h3C) (some (.int (if mtw t q e (wds.getD 2 []) = true then 1 else 0))) (hX tN tB pF pA pT pB dN dO dV dZ dQ dU dW sN sO sV sZ sQ sU sW rN rP rK rF rR rT rL rQ mS mT mK mF mG m1 m2 wN wF yN yF iK eN eO eV eZ eQ eU eW eS eB jK fN fO fV fZ fQ fU fW fS fB h0N h0L h0C h1N h1L h1C h2N h2L h2C h3N h3L h3C) := by
  have ch : ∀ i, i < 4 → ab_ch 2 i = nI ((wds.getD 2 []).getD i 0) ∧ (wds.getD 2 []).getD i 0 < 128 := by decide +kernel
  have hl : (wds.getD 2 []).length = 4 := rfl
  have key : ∀ (m i : Nat), i + m = 4 → e = q + 4 → Go (d + 2) 48 27 [some (.ref 1), some (.int (nI q)), some (.int (nI e)), some (.ref 902), some (.int (nI (q + i)))] [] (hX tN tB pF pA pT pB dN dO dV dZ dQ dU dW sN sO sV sZ sQ sU sW rN rP rK rF rR rT rL rQ mS mT mK mF mG m1 m2 wN wF yN yF iK eN eO eV eZ eQ eU eW eS eB jK fN fO fV fZ fQ fU fW fS fB h0N h0L h0C h1N h1L h1C h2N h2L h2C h3N h3L h3C) (some (.int (if al (fun i => decide (t (q + i) = (wds.getD 2 []).getD i 0)) m i = true then 1 else 0))) (hX tN tB pF pA pT pB dN dO dV dZ dQ dU dW sN sO sV sZ sQ sU sW rN rP rK rF rR rT rL rQ mS mT mK mF mG m1 m2 wN wF yN yF iK eN eO eV eZ eQ eU eW eS eB jK fN fO fV fZ fQ fU fW fS fB h0N h0L h0C h1N h1L h1C h2N h2L h2C h3N h3L h3C) := by
    intro m
    induction m with
    | zero =>
      intro i hi hqe
      exact b_X6_spells_2_27 (pk_le e (q + i) (fun _ => ⟨rfl, rfl⟩) (fun z => by omega))
    | succ m ih =>
      intro i hi hqe
      obtain ⟨c1, c2⟩ := ch i (by omega)
      obtain ⟨b1, b2⟩ := h2 (q + i) (by omega)
      have es : nI (q + i) - nI q = nI i := by rw [pk_sub (by omega)]; congr 1; omega
      unfold al
      refine b_X6_spells_2_27 (pk_le e (q + i) (fun z => by omega) (fun _ => ⟨q + i, rfl, by omega, i, es, by omega, ?_⟩))
      rw [c1, b1, nI_1, Nat.add_assoc]
      by_cases h : t (q + i) = (wds.getD 2 []).getD i 0
      · rw [decide_eq_true h, Bool.true_and, h]
        exact cy rfl (ih (i + 1) (by omega) hqe)
      · rw [decide_eq_false h, Bool.false_and]
        exact cn (fun z => h ((nI_eq (by omega) (by omega)).mp z)) ⟨rfl, rfl⟩
  have es : nI e - nI q = nI (e - q) := pk_sub hq
  refine b_X6_spells_2_0 (cn (nI_pos (by omega)) (pk_lt T e (fun z => by omega) (fun _ => ?_) h1))
  rw [es]
  by_cases h : e - q = 4
  · have hm : mtw t q e (wds.getD 2 []) = al (fun i => decide (t (q + i) = (wds.getD 2 []).getD i 0)) 4 0 := by
      unfold mtw
      rw [hl, decide_eq_true h, Bool.true_and]
    rw [hm, h]
    exact cy rfl (key 4 0 rfl (by omega))
  · have hm : mtw t q e (wds.getD 2 []) = false := by
      unfold mtw
      rw [hl, decide_eq_false h, Bool.false_and]
    rw [hm]
    exact cn (fun z => h ((nI_eq (b := 4) (by omega) (by decide)).mp z)) ⟨rfl, rfl⟩
theorem x_spells_3 {d q e T : Nat} {t : Nat → Nat} {tN : Int32} {tB : Nat → Int32} {pF pA pT pB dN dO dV dZ : Int32} {dQ dU dW : Nat → Int32} {sN sO sV sZ : Int32} {sQ sU sW : Nat → Int32} {rN : Int32} {rP rK rF rR rT rL rQ : Nat → Int32} {mS : Int32} {mT : Nat → Int64} {mK : Nat → Int32} {mF : Nat → Int64} {mG m1 m2 : Nat → Int32} {wN : Int32} {wF : Int64} {yN : Int32} {yF : Int64} {iK eN eO eV eZ : Int32} {eQ eU eW : Nat → Int32} {eS : Int32} {eB : Int64} {jK fN fO fV fZ : Int32} {fQ fU fW : Nat → Int32} {fS : Int32} {fB : Int64} {h0N h0L : Int32} {h0C : Nat → Int32} {h1N h1L : Int32} {h1C : Nat → Int32} {h2N h2L : Int32} {h2C : Nat → Int32} {h3N h3L : Int32} {h3C : Nat → Int32} (hT : T ≤ 200) (h1 : tN = nI T) (h2 : ∀ j, j < T → tB j = nI (t j) ∧ t j < 128) (hq : q ≤ e) (he : e ≤ T) : Go (d + 2) 48 0 [some (.ref 1), some (.int (nI q)), some (.int (nI e)), some (.ref 903), none] [] (hX tN tB pF pA pT pB dN dO dV dZ dQ dU dW sN sO sV sZ sQ sU sW rN rP rK rF rR rT rL rQ mS mT mK mF mG m1 m2 wN wF yN yF iK eN eO eV eZ eQ eU eW eS eB jK fN fO fV fZ fQ fU fW fS fB h0N h0L h0C h1N h1L h1C h2N h2L h2C h3N h3L h3C) (some (.int (if mtw t q e (wds.getD 3 []) = true then 1 else 0))) (hX tN tB pF pA pT pB dN dO dV dZ dQ dU dW sN sO sV sZ sQ sU sW rN rP rK rF rR rT rL rQ mS mT mK mF mG m1 m2 wN wF yN yF iK eN eO eV eZ eQ eU eW eS eB jK fN fO fV fZ fQ fU fW fS fB h0N h0L h0C h1N h1L h1C h2N h2L h2C h3N h3L h3C) := by
  have ch : ∀ i, i < 2 → ab_ch 3 i = nI ((wds.getD 3 []).getD i 0) ∧ (wds.getD 3 []).getD i 0 < 128 := by decide +kernel
  have hl : (wds.getD 3 []).length = 2 := rfl
  have key : ∀ (m i : Nat), i + m = 2 → e = q + 2 → Go (d + 2) 48 27 [some (.ref 1), some (.int (nI q)), some (.int (nI e)), some (.ref 903), some (.int (nI (q + i)))] [] (hX tN tB pF pA pT pB dN dO dV dZ dQ dU dW sN sO sV sZ sQ sU sW rN rP rK rF rR rT rL rQ mS mT mK mF mG m1 m2 wN wF yN yF iK eN eO eV eZ eQ eU eW eS eB jK fN fO fV fZ fQ fU fW fS fB h0N h0L h0C h1N h1L h1C h2N h2L h2C h3N h3L h3C) (some (.int (if al (fun i => decide (t (q + i) = (wds.getD 3 []).getD i 0)) m i = true then 1 else 0))) (hX tN tB pF pA pT pB dN dO dV dZ dQ dU dW sN sO sV sZ sQ sU sW rN rP rK rF rR rT rL rQ mS mT mK mF mG m1 m2 wN wF yN yF iK eN eO eV eZ eQ eU eW eS eB jK fN fO fV fZ fQ fU fW fS fB h0N h0L h0C h1N h1L h1C h2N h2L h2C h3N h3L h3C) := by
    intro m
    induction m with
    | zero =>
      intro i hi hqe
      exact b_X6_spells_3_27 (pk_le e (q + i) (fun _ => ⟨rfl, rfl⟩) (fun z => by omega))
    | succ m ih =>
      intro i hi hqe
      obtain ⟨c1, c2⟩ := ch i (by omega)
      obtain ⟨b1, b2⟩ := h2 (q + i) (by omega)
      have es : nI (q + i) - nI q = nI i := by rw [pk_sub (by omega)]; congr 1; omega
      unfold al
      refine b_X6_spells_3_27 (pk_le e (q + i) (fun z => by omega) (fun _ => ⟨q + i, rfl, by omega, i, es, by omega, ?_⟩))
      rw [c1, b1, nI_1, Nat.add_assoc]
      by_cases h : t (q + i) = (wds.getD 3 []).getD i 0
      · rw [decide_eq_true h, Bool.true_and, h]
        exact cy rfl (ih (i + 1) (by omega) hqe)
      · rw [decide_eq_false h, Bool.false_and]
        exact cn (fun z => h ((nI_eq (by omega) (by omega)).mp z)) ⟨rfl, rfl⟩
  have es : nI e - nI q = nI (e - q) := pk_sub hq
  refine b_X6_spells_3_0 (cn (nI_pos (by omega)) (pk_lt T e (fun z => by omega) (fun _ => ?_) h1))
  rw [es]
  by_cases h : e - q = 2
  · have hm : mtw t q e (wds.getD 3 []) = al (fun i => decide (t (q + i) = (wds.getD 3 []).getD i 0)) 2 0 := by
      unfold mtw
      rw [hl, decide_eq_true h, Bool.true_and]
    rw [hm, h]
    exact cy rfl (key 2 0 rfl (by omega))
  · have hm : mtw t q e (wds.getD 3 []) = false := by
      unfold mtw
      rw [hl, decide_eq_false h, Bool.false_and]
    rw [hm]
    exact cn (fun z => h ((nI_eq (b := 2) (by omega) (by decide)).mp z)) ⟨rfl, rfl⟩
theorem x_spells_4 {d q e T : Nat} {t : Nat → Nat} {tN : Int32} {tB : Nat → Int32} {pF pA pT pB dN dO dV dZ : Int32} {dQ dU dW : Nat → Int32} {sN sO sV sZ : Int32} {sQ sU sW : Nat → Int32} {rN : Int32} {rP rK rF rR rT rL rQ : Nat → Int32} {mS : Int32} {mT : Nat → Int64} {mK : Nat → Int32} {mF : Nat → Int64} {mG m1 m2 : Nat → Int32} {wN : Int32} {wF : Int64} {yN : Int32} {yF : Int64} {iK eN eO eV eZ : Int32} {eQ eU eW : Nat → Int32} {eS : Int32} {eB : Int64} {jK fN fO fV fZ : Int32} {fQ fU fW : Nat → Int32} {fS : Int32} {fB : Int64} {h0N h0L : Int32} {h0C : Nat → Int32} {h1N h1L : Int32} {h1C : Nat → Int32} {h2N h2L : Int32} {h2C : Nat → Int32} {h3N h3L : Int32} {h3C : Nat → Int32} (hT : T ≤ 200) (h1 : tN = nI T) (h2 : ∀ j, j < T → tB j = nI (t j) ∧ t j < 128) (hq : q ≤ e) (he : e ≤ T) : Go (d + 2) 48 0 [some (.ref 1), some (.int (nI q)), some (.int (nI e)), some (.ref 904), none] [] (hX tN tB pF pA pT pB dN dO dV dZ dQ dU dW sN sO sV sZ sQ sU sW rN rP rK rF rR rT rL rQ mS mT mK mF mG m1 m2 wN wF yN yF iK eN eO eV eZ eQ eU eW eS eB jK fN fO fV fZ fQ fU fW fS fB h0N h0L h0C h1N h1L h1C h2N h2L h2C h3N h3L h3C) (some (.int (if mtw t q e (wds.getD 4 []) = true then 1 else 0))) (hX tN tB pF pA pT pB dN dO dV dZ dQ dU dW sN sO sV sZ sQ sU sW rN rP rK rF rR rT rL rQ mS mT mK mF mG m1 m2 wN wF yN yF iK eN eO eV eZ eQ eU eW eS eB jK fN fO fV fZ fQ fU fW fS fB h0N h0L h0C h1N h1L h1C h2N h2L h2C h3N h3L h3C) := by
  have ch : ∀ i, i < 3 → ab_ch 4 i = nI ((wds.getD 4 []).getD i 0) ∧ (wds.getD 4 []).getD i 0 < 128 := by decide +kernel
  have hl : (wds.getD 4 []).length = 3 := rfl
  have key : ∀ (m i : Nat), i + m = 3 → e = q + 3 → Go (d + 2) 48 27 [some (.ref 1), some (.int (nI q)), some (.int (nI e)), some (.ref 904), some (.int (nI (q + i)))] [] (hX tN tB pF pA pT pB dN dO dV dZ dQ dU dW sN sO sV sZ sQ sU sW rN rP rK rF rR rT rL rQ mS mT mK mF mG m1 m2 wN wF yN yF iK eN eO eV eZ eQ eU eW eS eB jK fN fO fV fZ fQ fU fW fS fB h0N h0L h0C h1N h1L h1C h2N h2L h2C h3N h3L h3C) (some (.int (if al (fun i => decide (t (q + i) = (wds.getD 4 []).getD i 0)) m i = true then 1 else 0))) (hX tN tB pF pA pT pB dN dO dV dZ dQ dU dW sN sO sV sZ sQ sU sW rN rP rK rF rR rT rL rQ mS mT mK mF mG m1 m2 wN wF yN yF iK eN eO eV eZ eQ eU eW eS eB jK fN fO fV fZ fQ fU fW fS fB h0N h0L h0C h1N h1L h1C h2N h2L h2C h3N h3L h3C) := by
    intro m
    induction m with
    | zero =>
      intro i hi hqe
      exact b_X6_spells_4_27 (pk_le e (q + i) (fun _ => ⟨rfl, rfl⟩) (fun z => by omega))
    | succ m ih =>
      intro i hi hqe
      obtain ⟨c1, c2⟩ := ch i (by omega)
      obtain ⟨b1, b2⟩ := h2 (q + i) (by omega)
      have es : nI (q + i) - nI q = nI i := by rw [pk_sub (by omega)]; congr 1; omega
      unfold al
      refine b_X6_spells_4_27 (pk_le e (q + i) (fun z => by omega) (fun _ => ⟨q + i, rfl, by omega, i, es, by omega, ?_⟩))
      rw [c1, b1, nI_1, Nat.add_assoc]
      by_cases h : t (q + i) = (wds.getD 4 []).getD i 0
      · rw [decide_eq_true h, Bool.true_and, h]
        exact cy rfl (ih (i + 1) (by omega) hqe)
      · rw [decide_eq_false h, Bool.false_and]
        exact cn (fun z => h ((nI_eq (by omega) (by omega)).mp z)) ⟨rfl, rfl⟩
  have es : nI e - nI q = nI (e - q) := pk_sub hq
  refine b_X6_spells_4_0 (cn (nI_pos (by omega)) (pk_lt T e (fun z => by omega) (fun _ => ?_) h1))
  rw [es]
  by_cases h : e - q = 3
  · have hm : mtw t q e (wds.getD 4 []) = al (fun i => decide (t (q + i) = (wds.getD 4 []).getD i 0)) 3 0 := by
      unfold mtw
      rw [hl, decide_eq_true h, Bool.true_and]
    rw [hm, h]
    exact cy rfl (key 3 0 rfl (by omega))
  · have hm : mtw t q e (wds.getD 4 []) = false := by
      unfold mtw
      rw [hl, decide_eq_false h, Bool.false_and]
    rw [hm]
    exact cn (fun z => h ((nI_eq (b := 3) (by omega) (by decide)).mp z)) ⟨rfl, rfl⟩
theorem x_spells_5 {d q e T : Nat} {t : Nat → Nat} {tN : Int32} {tB : Nat → Int32} {pF pA pT pB dN dO dV dZ : Int32} {dQ dU dW : Nat → Int32} {sN sO sV sZ : Int32} {sQ sU sW : Nat → Int32} {rN : Int32} {rP rK rF rR rT rL rQ : Nat → Int32} {mS : Int32} {mT : Nat → Int64} {mK : Nat → Int32} {mF : Nat → Int64} {mG m1 m2 : Nat → Int32} {wN : Int32} {wF : Int64} {yN : Int32} {yF : Int64} {iK eN eO eV eZ : Int32} {eQ eU eW : Nat → Int32} {eS : Int32} {eB : Int64} {jK fN fO fV fZ : Int32} {fQ fU fW : Nat → Int32} {fS : Int32} {fB : Int64} {h0N h0L : Int32} {h0C : Nat → Int32} {h1N h1L : Int32} {h1C : Nat → Int32} {h2N h2L : Int32} {h2C : Nat → Int32} {h3N h3L : Int32} {h3C : Nat → Int32} (hT : T ≤ 200) (h1 : tN = nI T) (h2 : ∀ j, j < T → tB j = nI (t j) ∧ t j < 128) (hq : q ≤ e) (he : e ≤ T) : Go (d + 2) 48 0 [some (.ref 1), some (.int (nI q)), some (.int (nI e)), some (.ref 905), none] [] (hX tN tB pF pA pT pB dN dO dV dZ dQ dU dW sN sO sV sZ sQ sU sW rN rP rK rF rR rT rL rQ mS mT mK mF mG m1 m2 wN wF yN yF iK eN eO eV eZ eQ eU eW eS eB jK fN fO fV fZ fQ fU fW fS fB h0N h0L h0C h1N h1L h1C h2N h2L h2C h3N h3L h3C) (some (.int (if mtw t q e (wds.getD 5 []) = true then 1 else 0))) (hX tN tB pF pA pT pB dN dO dV dZ dQ dU dW sN sO sV sZ sQ sU sW rN rP rK rF rR rT rL rQ mS mT mK mF mG m1 m2 wN wF yN yF iK eN eO eV eZ eQ eU eW eS eB jK fN fO fV fZ fQ fU fW fS fB h0N h0L h0C h1N h1L h1C h2N h2L h2C h3N h3L h3C) := by
  have ch : ∀ i, i < 3 → ab_ch 5 i = nI ((wds.getD 5 []).getD i 0) ∧ (wds.getD 5 []).getD i 0 < 128 := by decide +kernel
  have hl : (wds.getD 5 []).length = 3 := rfl
  have key : ∀ (m i : Nat), i + m = 3 → e = q + 3 → Go (d + 2) 48 27 [some (.ref 1), some (.int (nI q)), some (.int (nI e)), some (.ref 905), some (.int (nI (q + i)))] [] (hX tN tB pF pA pT pB dN dO dV dZ dQ dU dW sN sO sV sZ sQ sU sW rN rP rK rF rR rT rL rQ mS mT mK mF mG m1 m2 wN wF yN yF iK eN eO eV eZ eQ eU eW eS eB jK fN fO fV fZ fQ fU fW fS fB h0N h0L h0C h1N h1L h1C h2N h2L h2C h3N h3L h3C) (some (.int (if al (fun i => decide (t (q + i) = (wds.getD 5 []).getD i 0)) m i = true then 1 else 0))) (hX tN tB pF pA pT pB dN dO dV dZ dQ dU dW sN sO sV sZ sQ sU sW rN rP rK rF rR rT rL rQ mS mT mK mF mG m1 m2 wN wF yN yF iK eN eO eV eZ eQ eU eW eS eB jK fN fO fV fZ fQ fU fW fS fB h0N h0L h0C h1N h1L h1C h2N h2L h2C h3N h3L h3C) := by
    intro m
    induction m with
    | zero =>
      intro i hi hqe
      exact b_X6_spells_5_27 (pk_le e (q + i) (fun _ => ⟨rfl, rfl⟩) (fun z => by omega))
    | succ m ih =>
      intro i hi hqe
      obtain ⟨c1, c2⟩ := ch i (by omega)
      obtain ⟨b1, b2⟩ := h2 (q + i) (by omega)
      have es : nI (q + i) - nI q = nI i := by rw [pk_sub (by omega)]; congr 1; omega
      unfold al
      refine b_X6_spells_5_27 (pk_le e (q + i) (fun z => by omega) (fun _ => ⟨q + i, rfl, by omega, i, es, by omega, ?_⟩))
      rw [c1, b1, nI_1, Nat.add_assoc]
      by_cases h : t (q + i) = (wds.getD 5 []).getD i 0
      · rw [decide_eq_true h, Bool.true_and, h]
        exact cy rfl (ih (i + 1) (by omega) hqe)
      · rw [decide_eq_false h, Bool.false_and]
        exact cn (fun z => h ((nI_eq (by omega) (by omega)).mp z)) ⟨rfl, rfl⟩
  have es : nI e - nI q = nI (e - q) := pk_sub hq
  refine b_X6_spells_5_0 (cn (nI_pos (by omega)) (pk_lt T e (fun z => by omega) (fun _ => ?_) h1))
  rw [es]
  by_cases h : e - q = 3
  · have hm : mtw t q e (wds.getD 5 []) = al (fun i => decide (t (q + i) = (wds.getD 5 []).getD i 0)) 3 0 := by
      unfold mtw
      rw [hl, decide_eq_true h, Bool.true_and]
    rw [hm, h]
    exact cy rfl (key 3 0 rfl (by omega))
  · have hm : mtw t q e (wds.getD 5 []) = false := by
      unfold mtw
      rw [hl, decide_eq_false h, Bool.false_and]
    rw [hm]
    exact cn (fun z => h ((nI_eq (b := 3) (by omega) (by decide)).mp z)) ⟨rfl, rfl⟩
theorem x_spells_6 {d q e T : Nat} {t : Nat → Nat} {tN : Int32} {tB : Nat → Int32} {pF pA pT pB dN dO dV dZ : Int32} {dQ dU dW : Nat → Int32} {sN sO sV sZ : Int32} {sQ sU sW : Nat → Int32} {rN : Int32} {rP rK rF rR rT rL rQ : Nat → Int32} {mS : Int32} {mT : Nat → Int64} {mK : Nat → Int32} {mF : Nat → Int64} {mG m1 m2 : Nat → Int32} {wN : Int32} {wF : Int64} {yN : Int32} {yF : Int64} {iK eN eO eV eZ : Int32} {eQ eU eW : Nat → Int32} {eS : Int32} {eB : Int64} {jK fN fO fV fZ : Int32} {fQ fU fW : Nat → Int32} {fS : Int32} {fB : Int64} {h0N h0L : Int32} {h0C : Nat → Int32} {h1N h1L : Int32} {h1C : Nat → Int32} {h2N h2L : Int32} {h2C : Nat → Int32} {h3N h3L : Int32} {h3C : Nat → Int32} (hT : T ≤ 200) (h1 : tN = nI T) (h2 : ∀ j, j < T → tB j = nI (t j) ∧ t j < 128) (hq : q ≤ e) (he : e ≤ T) : Go (d + 2) 48 0 [some (.ref 1), some (.int (nI q)), some (.int (nI e)), some (.ref 906), none] [] (hX tN tB pF pA pT pB dN dO dV dZ dQ dU dW sN sO sV sZ sQ sU sW rN rP rK rF rR rT rL rQ mS mT mK mF mG m1 m2 wN wF yN yF iK eN eO eV eZ eQ eU eW eS eB jK fN fO fV fZ fQ fU fW fS fB h0N h0L h0C h1N h1L h1C h2N h2L h2C h3N h3L h3C) (some (.int (if mtw t q e (wds.getD 6 []) = true then 1 else 0))) (hX tN tB pF pA pT pB dN dO dV dZ dQ dU dW sN sO sV sZ sQ sU sW rN rP rK rF rR rT rL rQ mS mT mK mF mG m1 m2 wN wF yN yF iK eN eO eV eZ eQ eU eW eS eB jK fN fO fV fZ fQ fU fW fS fB h0N h0L h0C h1N h1L h1C h2N h2L h2C h3N h3L h3C) := by
  have ch : ∀ i, i < 3 → ab_ch 6 i = nI ((wds.getD 6 []).getD i 0) ∧ (wds.getD 6 []).getD i 0 < 128 := by decide +kernel
  have hl : (wds.getD 6 []).length = 3 := rfl
  have key : ∀ (m i : Nat), i + m = 3 → e = q + 3 → Go (d + 2) 48 27 [some (.ref 1), some (.int (nI q)), some (.int (nI e)), some (.ref 906), some (.int (nI (q + i)))] [] (hX tN tB pF pA pT pB dN dO dV dZ dQ dU dW sN sO sV sZ sQ sU sW rN rP rK rF rR rT rL rQ mS mT mK mF mG m1 m2 wN wF yN yF iK eN eO eV eZ eQ eU eW eS eB jK fN fO fV fZ fQ fU fW fS fB h0N h0L h0C h1N h1L h1C h2N h2L h2C h3N h3L h3C) (some (.int (if al (fun i => decide (t (q + i) = (wds.getD 6 []).getD i 0)) m i = true then 1 else 0))) (hX tN tB pF pA pT pB dN dO dV dZ dQ dU dW sN sO sV sZ sQ sU sW rN rP rK rF rR rT rL rQ mS mT mK mF mG m1 m2 wN wF yN yF iK eN eO eV eZ eQ eU eW eS eB jK fN fO fV fZ fQ fU fW fS fB h0N h0L h0C h1N h1L h1C h2N h2L h2C h3N h3L h3C) := by
    intro m
    induction m with
    | zero =>
      intro i hi hqe
      exact b_X6_spells_6_27 (pk_le e (q + i) (fun _ => ⟨rfl, rfl⟩) (fun z => by omega))
    | succ m ih =>
      intro i hi hqe
      obtain ⟨c1, c2⟩ := ch i (by omega)
      obtain ⟨b1, b2⟩ := h2 (q + i) (by omega)
      have es : nI (q + i) - nI q = nI i := by rw [pk_sub (by omega)]; congr 1; omega
      unfold al
      refine b_X6_spells_6_27 (pk_le e (q + i) (fun z => by omega) (fun _ => ⟨q + i, rfl, by omega, i, es, by omega, ?_⟩))
      rw [c1, b1, nI_1, Nat.add_assoc]
      by_cases h : t (q + i) = (wds.getD 6 []).getD i 0
      · rw [decide_eq_true h, Bool.true_and, h]
        exact cy rfl (ih (i + 1) (by omega) hqe)
      · rw [decide_eq_false h, Bool.false_and]
        exact cn (fun z => h ((nI_eq (by omega) (by omega)).mp z)) ⟨rfl, rfl⟩
  have es : nI e - nI q = nI (e - q) := pk_sub hq
  refine b_X6_spells_6_0 (cn (nI_pos (by omega)) (pk_lt T e (fun z => by omega) (fun _ => ?_) h1))
  rw [es]
  by_cases h : e - q = 3
  · have hm : mtw t q e (wds.getD 6 []) = al (fun i => decide (t (q + i) = (wds.getD 6 []).getD i 0)) 3 0 := by
      unfold mtw
      rw [hl, decide_eq_true h, Bool.true_and]
    rw [hm, h]
    exact cy rfl (key 3 0 rfl (by omega))
  · have hm : mtw t q e (wds.getD 6 []) = false := by
      unfold mtw
      rw [hl, decide_eq_false h, Bool.false_and]
    rw [hm]
    exact cn (fun z => h ((nI_eq (b := 3) (by omega) (by decide)).mp z)) ⟨rfl, rfl⟩
theorem x_spells_7 {d q e T : Nat} {t : Nat → Nat} {tN : Int32} {tB : Nat → Int32} {pF pA pT pB dN dO dV dZ : Int32} {dQ dU dW : Nat → Int32} {sN sO sV sZ : Int32} {sQ sU sW : Nat → Int32} {rN : Int32} {rP rK rF rR rT rL rQ : Nat → Int32} {mS : Int32} {mT : Nat → Int64} {mK : Nat → Int32} {mF : Nat → Int64} {mG m1 m2 : Nat → Int32} {wN : Int32} {wF : Int64} {yN : Int32} {yF : Int64} {iK eN eO eV eZ : Int32} {eQ eU eW : Nat → Int32} {eS : Int32} {eB : Int64} {jK fN fO fV fZ : Int32} {fQ fU fW : Nat → Int32} {fS : Int32} {fB : Int64} {h0N h0L : Int32} {h0C : Nat → Int32} {h1N h1L : Int32} {h1C : Nat → Int32} {h2N h2L : Int32} {h2C : Nat → Int32} {h3N h3L : Int32} {h3C : Nat → Int32} (hT : T ≤ 200) (h1 : tN = nI T) (h2 : ∀ j, j < T → tB j = nI (t j) ∧ t j < 128) (hq : q ≤ e) (he : e ≤ T) : Go (d + 2) 48 0 [some (.ref 1), some (.int (nI q)), some (.int (nI e)), some (.ref 907), none] [] (hX tN tB pF pA pT pB dN dO dV dZ dQ dU dW sN sO sV sZ sQ sU sW rN rP rK rF rR rT rL rQ mS mT mK mF mG m1 m2 wN wF yN yF iK eN eO eV eZ eQ eU eW eS eB jK fN fO fV fZ fQ fU fW fS fB h0N h0L h0C h1N h1L h1C h2N h2L h2C h3N h3L h3C) (some (.int (if mtw t q e (wds.getD 7 []) = true then 1 else 0))) (hX tN tB pF pA pT pB dN dO dV dZ dQ dU dW sN sO sV sZ sQ sU sW rN rP rK rF rR rT rL rQ mS mT mK mF mG m1 m2 wN wF yN yF iK eN eO eV eZ eQ eU eW eS eB jK fN fO fV fZ fQ fU fW fS fB h0N h0L h0C h1N h1L h1C h2N h2L h2C h3N h3L h3C) := by
  have ch : ∀ i, i < 4 → ab_ch 7 i = nI ((wds.getD 7 []).getD i 0) ∧ (wds.getD 7 []).getD i 0 < 128 := by decide +kernel
  have hl : (wds.getD 7 []).length = 4 := rfl
  have key : ∀ (m i : Nat), i + m = 4 → e = q + 4 → Go (d + 2) 48 27 [some (.ref 1), some (.int (nI q)), some (.int (nI e)), some (.ref 907), some (.int (nI (q + i)))] [] (hX tN tB pF pA pT pB dN dO dV dZ dQ dU dW sN sO sV sZ sQ sU sW rN rP rK rF rR rT rL rQ mS mT mK mF mG m1 m2 wN wF yN yF iK eN eO eV eZ eQ eU eW eS eB jK fN fO fV fZ fQ fU fW fS fB h0N h0L h0C h1N h1L h1C h2N h2L h2C h3N h3L h3C) (some (.int (if al (fun i => decide (t (q + i) = (wds.getD 7 []).getD i 0)) m i = true then 1 else 0))) (hX tN tB pF pA pT pB dN dO dV dZ dQ dU dW sN sO sV sZ sQ sU sW rN rP rK rF rR rT rL rQ mS mT mK mF mG m1 m2 wN wF yN yF iK eN eO eV eZ eQ eU eW eS eB jK fN fO fV fZ fQ fU fW fS fB h0N h0L h0C h1N h1L h1C h2N h2L h2C h3N h3L h3C) := by
    intro m
    induction m with
    | zero =>
      intro i hi hqe
      exact b_X6_spells_7_27 (pk_le e (q + i) (fun _ => ⟨rfl, rfl⟩) (fun z => by omega))
    | succ m ih =>
      intro i hi hqe
      obtain ⟨c1, c2⟩ := ch i (by omega)
      obtain ⟨b1, b2⟩ := h2 (q + i) (by omega)
      have es : nI (q + i) - nI q = nI i := by rw [pk_sub (by omega)]; congr 1; omega
      unfold al
      refine b_X6_spells_7_27 (pk_le e (q + i) (fun z => by omega) (fun _ => ⟨q + i, rfl, by omega, i, es, by omega, ?_⟩))
      rw [c1, b1, nI_1, Nat.add_assoc]
      by_cases h : t (q + i) = (wds.getD 7 []).getD i 0
      · rw [decide_eq_true h, Bool.true_and, h]
        exact cy rfl (ih (i + 1) (by omega) hqe)
      · rw [decide_eq_false h, Bool.false_and]
        exact cn (fun z => h ((nI_eq (by omega) (by omega)).mp z)) ⟨rfl, rfl⟩
  have es : nI e - nI q = nI (e - q) := pk_sub hq
  refine b_X6_spells_7_0 (cn (nI_pos (by omega)) (pk_lt T e (fun z => by omega) (fun _ => ?_) h1))
  rw [es]
  by_cases h : e - q = 4
  · have hm : mtw t q e (wds.getD 7 []) = al (fun i => decide (t (q + i) = (wds.getD 7 []).getD i 0)) 4 0 := by
      unfold mtw
      rw [hl, decide_eq_true h, Bool.true_and]
    rw [hm, h]
    exact cy rfl (key 4 0 rfl (by omega))
  · have hm : mtw t q e (wds.getD 7 []) = false := by
      unfold mtw
      rw [hl, decide_eq_false h, Bool.false_and]
    rw [hm]
    exact cn (fun z => h ((nI_eq (b := 4) (by omega) (by decide)).mp z)) ⟨rfl, rfl⟩
theorem x_spells_8 {d q e T : Nat} {t : Nat → Nat} {tN : Int32} {tB : Nat → Int32} {pF pA pT pB dN dO dV dZ : Int32} {dQ dU dW : Nat → Int32} {sN sO sV sZ : Int32} {sQ sU sW : Nat → Int32} {rN : Int32} {rP rK rF rR rT rL rQ : Nat → Int32} {mS : Int32} {mT : Nat → Int64} {mK : Nat → Int32} {mF : Nat → Int64} {mG m1 m2 : Nat → Int32} {wN : Int32} {wF : Int64} {yN : Int32} {yF : Int64} {iK eN eO eV eZ : Int32} {eQ eU eW : Nat → Int32} {eS : Int32} {eB : Int64} {jK fN fO fV fZ : Int32} {fQ fU fW : Nat → Int32} {fS : Int32} {fB : Int64} {h0N h0L : Int32} {h0C : Nat → Int32} {h1N h1L : Int32} {h1C : Nat → Int32} {h2N h2L : Int32} {h2C : Nat → Int32} {h3N h3L : Int32} {h3C : Nat → Int32} (hT : T ≤ 200) (h1 : tN = nI T) (h2 : ∀ j, j < T → tB j = nI (t j) ∧ t j < 128) (hq : q ≤ e) (he : e ≤ T) : Go (d + 2) 48 0 [some (.ref 1), some (.int (nI q)), some (.int (nI e)), some (.ref 908), none] [] (hX tN tB pF pA pT pB dN dO dV dZ dQ dU dW sN sO sV sZ sQ sU sW rN rP rK rF rR rT rL rQ mS mT mK mF mG m1 m2 wN wF yN yF iK eN eO eV eZ eQ eU eW eS eB jK fN fO fV fZ fQ fU fW fS fB h0N h0L h0C h1N h1L h1C h2N h2L h2C h3N h3L h3C) (some (.int (if mtw t q e (wds.getD 8 []) = true then 1 else 0))) (hX tN tB pF pA pT pB dN dO dV dZ dQ dU dW sN sO sV sZ sQ sU sW rN rP rK rF rR rT rL rQ mS mT mK mF mG m1 m2 wN wF yN yF iK eN eO eV eZ eQ eU eW eS eB jK fN fO fV fZ fQ fU fW fS fB h0N h0L h0C h1N h1L h1C h2N h2L h2C h3N h3L h3C) := by
  have ch : ∀ i, i < 5 → ab_ch 8 i = nI ((wds.getD 8 []).getD i 0) ∧ (wds.getD 8 []).getD i 0 < 128 := by decide +kernel
  have hl : (wds.getD 8 []).length = 5 := rfl
  have key : ∀ (m i : Nat), i + m = 5 → e = q + 5 → Go (d + 2) 48 27 [some (.ref 1), some (.int (nI q)), some (.int (nI e)), some (.ref 908), some (.int (nI (q + i)))] [] (hX tN tB pF pA pT pB dN dO dV dZ dQ dU dW sN sO sV sZ sQ sU sW rN rP rK rF rR rT rL rQ mS mT mK mF mG m1 m2 wN wF yN yF iK eN eO eV eZ eQ eU eW eS eB jK fN fO fV fZ fQ fU fW fS fB h0N h0L h0C h1N h1L h1C h2N h2L h2C h3N h3L h3C) (some (.int (if al (fun i => decide (t (q + i) = (wds.getD 8 []).getD i 0)) m i = true then 1 else 0))) (hX tN tB pF pA pT pB dN dO dV dZ dQ dU dW sN sO sV sZ sQ sU sW rN rP rK rF rR rT rL rQ mS mT mK mF mG m1 m2 wN wF yN yF iK eN eO eV eZ eQ eU eW eS eB jK fN fO fV fZ fQ fU fW fS fB h0N h0L h0C h1N h1L h1C h2N h2L h2C h3N h3L h3C) := by
    intro m
    induction m with
    | zero =>
      intro i hi hqe
      exact b_X6_spells_8_27 (pk_le e (q + i) (fun _ => ⟨rfl, rfl⟩) (fun z => by omega))
    | succ m ih =>
      intro i hi hqe
      obtain ⟨c1, c2⟩ := ch i (by omega)
      obtain ⟨b1, b2⟩ := h2 (q + i) (by omega)
      have es : nI (q + i) - nI q = nI i := by rw [pk_sub (by omega)]; congr 1; omega
      unfold al
      refine b_X6_spells_8_27 (pk_le e (q + i) (fun z => by omega) (fun _ => ⟨q + i, rfl, by omega, i, es, by omega, ?_⟩))
      rw [c1, b1, nI_1, Nat.add_assoc]
      by_cases h : t (q + i) = (wds.getD 8 []).getD i 0
      · rw [decide_eq_true h, Bool.true_and, h]
        exact cy rfl (ih (i + 1) (by omega) hqe)
      · rw [decide_eq_false h, Bool.false_and]
        exact cn (fun z => h ((nI_eq (by omega) (by omega)).mp z)) ⟨rfl, rfl⟩
  have es : nI e - nI q = nI (e - q) := pk_sub hq
  refine b_X6_spells_8_0 (cn (nI_pos (by omega)) (pk_lt T e (fun z => by omega) (fun _ => ?_) h1))
  rw [es]
  by_cases h : e - q = 5
  · have hm : mtw t q e (wds.getD 8 []) = al (fun i => decide (t (q + i) = (wds.getD 8 []).getD i 0)) 5 0 := by
      unfold mtw
      rw [hl, decide_eq_true h, Bool.true_and]
    rw [hm, h]
    exact cy rfl (key 5 0 rfl (by omega))
  · have hm : mtw t q e (wds.getD 8 []) = false := by
      unfold mtw
      rw [hl, decide_eq_false h, Bool.false_and]
    rw [hm]
    exact cn (fun z => h ((nI_eq (b := 5) (by omega) (by decide)).mp z)) ⟨rfl, rfl⟩
theorem x_nameToken {d q e T : Nat} {t : Nat → Nat} {tN : Int32} {tB : Nat → Int32} {pF pA pT pB dN dO dV dZ : Int32} {dQ dU dW : Nat → Int32} {sN sO sV sZ : Int32} {sQ sU sW : Nat → Int32} {rN : Int32} {rP rK rF rR rT rL rQ : Nat → Int32} {mS : Int32} {mT : Nat → Int64} {mK : Nat → Int32} {mF : Nat → Int64} {mG m1 m2 : Nat → Int32} {wN : Int32} {wF : Int64} {yN : Int32} {yF : Int64} {iK eN eO eV eZ : Int32} {eQ eU eW : Nat → Int32} {eS : Int32} {eB : Int64} {jK fN fO fV fZ : Int32} {fQ fU fW : Nat → Int32} {fS : Int32} {fB : Int64} {h0N h0L : Int32} {h0C : Nat → Int32} {h1N h1L : Int32} {h1C : Nat → Int32} {h2N h2L : Int32} {h2C : Nat → Int32} {h3N h3L : Int32} {h3C : Nat → Int32} (hT : T ≤ 200) (h1 : tN = nI T) (h2 : ∀ j, j < T → tB j = nI (t j) ∧ t j < 128) (hq : q ≤ e) (he : e ≤ T) : Go (d + 3) 21 0 [some (.ref 1), some (.int (nI q)), some (.int (nI e))] [] (hX tN tB pF pA pT pB dN dO dV dZ dQ dU dW sN sO sV sZ sQ sU sW rN rP rK rF rR rT rL rQ mS mT mK mF mG m1 m2 wN wF yN yF iK eN eO eV eZ eQ eU eW eS eB jK fN fO fV fZ fQ fU fW fS fB h0N h0L h0C h1N h1L h1C h2N h2L h2C h3N h3L h3C) (some (.int (nI (tcd t q e)))) (hX tN tB pF pA pT pB dN dO dV dZ dQ dU dW sN sO sV sZ sQ sU sW rN rP rK rF rR rT rL rQ mS mT mK mF mG m1 m2 wN wF yN yF iK eN eO eV eZ eQ eU eW eS eB jK fN fO fV fZ fQ fU fW fS fB h0N h0L h0C h1N h1L h1C h2N h2L h2C h3N h3L h3C) := by
  have g0 := x_spells_0 (d := d) (q := q) (e := e) (tN := tN) (tB := tB) (pF := pF) (pA := pA) (pT := pT) (pB := pB) (dN := dN) (dO := dO) (dV := dV) (dZ := dZ) (dQ := dQ) (dU := dU) (dW := dW) (sN := sN) (sO := sO) (sV := sV) (sZ := sZ) (sQ := sQ) (sU := sU) (sW := sW) (rN := rN) (rP := rP) (rK := rK) (rF := rF) (rR := rR) (rT := rT) (rL := rL) (rQ := rQ) (mS := mS) (mT := mT) (mK := mK) (mF := mF) (mG := mG) (m1 := m1) (m2 := m2) (wN := wN) (wF := wF) (yN := yN) (yF := yF) (iK := iK) (eN := eN) (eO := eO) (eV := eV) (eZ := eZ) (eQ := eQ) (eU := eU) (eW := eW) (eS := eS) (eB := eB) (jK := jK) (fN := fN) (fO := fO) (fV := fV) (fZ := fZ) (fQ := fQ) (fU := fU) (fW := fW) (fS := fS) (fB := fB) (h0N := h0N) (h0L := h0L) (h0C := h0C) (h1N := h1N) (h1L := h1L) (h1C := h1C) (h2N := h2N) (h2L := h2L) (h2C := h2C) (h3N := h3N) (h3L := h3L) (h3C := h3C) hT h1 h2 hq he
  have g1 := x_spells_1 (d := d) (q := q) (e := e) (tN := tN) (tB := tB) (pF := pF) (pA := pA) (pT := pT) (pB := pB) (dN := dN) (dO := dO) (dV := dV) (dZ := dZ) (dQ := dQ) (dU := dU) (dW := dW) (sN := sN) (sO := sO) (sV := sV) (sZ := sZ) (sQ := sQ) (sU := sU) (sW := sW) (rN := rN) (rP := rP) (rK := rK) (rF := rF) (rR := rR) (rT := rT) (rL := rL) (rQ := rQ) (mS := mS) (mT := mT) (mK := mK) (mF := mF) (mG := mG) (m1 := m1) (m2 := m2) (wN := wN) (wF := wF) (yN := yN) (yF := yF) (iK := iK) (eN := eN) (eO := eO) (eV := eV) (eZ := eZ) (eQ := eQ) (eU := eU) (eW := eW) (eS := eS) (eB := eB) (jK := jK) (fN := fN) (fO := fO) (fV := fV) (fZ := fZ) (fQ := fQ) (fU := fU) (fW := fW) (fS := fS) (fB := fB) (h0N := h0N) (h0L := h0L) (h0C := h0C) (h1N := h1N) (h1L := h1L) (h1C := h1C) (h2N := h2N) (h2L := h2L) (h2C := h2C) (h3N := h3N) (h3L := h3L) (h3C := h3C) hT h1 h2 hq he
  have g2 := x_spells_2 (d := d) (q := q) (e := e) (tN := tN) (tB := tB) (pF := pF) (pA := pA) (pT := pT) (pB := pB) (dN := dN) (dO := dO) (dV := dV) (dZ := dZ) (dQ := dQ) (dU := dU) (dW := dW) (sN := sN) (sO := sO) (sV := sV) (sZ := sZ) (sQ := sQ) (sU := sU) (sW := sW) (rN := rN) (rP := rP) (rK := rK) (rF := rF) (rR := rR) (rT := rT) (rL := rL) (rQ := rQ) (mS := mS) (mT := mT) (mK := mK) (mF := mF) (mG := mG) (m1 := m1) (m2 := m2) (wN := wN) (wF := wF) (yN := yN) (yF := yF) (iK := iK) (eN := eN) (eO := eO) (eV := eV) (eZ := eZ) (eQ := eQ) (eU := eU) (eW := eW) (eS := eS) (eB := eB) (jK := jK) (fN := fN) (fO := fO) (fV := fV) (fZ := fZ) (fQ := fQ) (fU := fU) (fW := fW) (fS := fS) (fB := fB) (h0N := h0N) (h0L := h0L) (h0C := h0C) (h1N := h1N) (h1L := h1L) (h1C := h1C) (h2N := h2N) (h2L := h2L) (h2C := h2C) (h3N := h3N) (h3L := h3L) (h3C := h3C) hT h1 h2 hq he
  have g3 := x_spells_3 (d := d) (q := q) (e := e) (tN := tN) (tB := tB) (pF := pF) (pA := pA) (pT := pT) (pB := pB) (dN := dN) (dO := dO) (dV := dV) (dZ := dZ) (dQ := dQ) (dU := dU) (dW := dW) (sN := sN) (sO := sO) (sV := sV) (sZ := sZ) (sQ := sQ) (sU := sU) (sW := sW) (rN := rN) (rP := rP) (rK := rK) (rF := rF) (rR := rR) (rT := rT) (rL := rL) (rQ := rQ) (mS := mS) (mT := mT) (mK := mK) (mF := mF) (mG := mG) (m1 := m1) (m2 := m2) (wN := wN) (wF := wF) (yN := yN) (yF := yF) (iK := iK) (eN := eN) (eO := eO) (eV := eV) (eZ := eZ) (eQ := eQ) (eU := eU) (eW := eW) (eS := eS) (eB := eB) (jK := jK) (fN := fN) (fO := fO) (fV := fV) (fZ := fZ) (fQ := fQ) (fU := fU) (fW := fW) (fS := fS) (fB := fB) (h0N := h0N) (h0L := h0L) (h0C := h0C) (h1N := h1N) (h1L := h1L) (h1C := h1C) (h2N := h2N) (h2L := h2L) (h2C := h2C) (h3N := h3N) (h3L := h3L) (h3C := h3C) hT h1 h2 hq he
  have g4 := x_spells_4 (d := d) (q := q) (e := e) (tN := tN) (tB := tB) (pF := pF) (pA := pA) (pT := pT) (pB := pB) (dN := dN) (dO := dO) (dV := dV) (dZ := dZ) (dQ := dQ) (dU := dU) (dW := dW) (sN := sN) (sO := sO) (sV := sV) (sZ := sZ) (sQ := sQ) (sU := sU) (sW := sW) (rN := rN) (rP := rP) (rK := rK) (rF := rF) (rR := rR) (rT := rT) (rL := rL) (rQ := rQ) (mS := mS) (mT := mT) (mK := mK) (mF := mF) (mG := mG) (m1 := m1) (m2 := m2) (wN := wN) (wF := wF) (yN := yN) (yF := yF) (iK := iK) (eN := eN) (eO := eO) (eV := eV) (eZ := eZ) (eQ := eQ) (eU := eU) (eW := eW) (eS := eS) (eB := eB) (jK := jK) (fN := fN) (fO := fO) (fV := fV) (fZ := fZ) (fQ := fQ) (fU := fU) (fW := fW) (fS := fS) (fB := fB) (h0N := h0N) (h0L := h0L) (h0C := h0C) (h1N := h1N) (h1L := h1L) (h1C := h1C) (h2N := h2N) (h2L := h2L) (h2C := h2C) (h3N := h3N) (h3L := h3L) (h3C := h3C) hT h1 h2 hq he
  have g5 := x_spells_5 (d := d) (q := q) (e := e) (tN := tN) (tB := tB) (pF := pF) (pA := pA) (pT := pT) (pB := pB) (dN := dN) (dO := dO) (dV := dV) (dZ := dZ) (dQ := dQ) (dU := dU) (dW := dW) (sN := sN) (sO := sO) (sV := sV) (sZ := sZ) (sQ := sQ) (sU := sU) (sW := sW) (rN := rN) (rP := rP) (rK := rK) (rF := rF) (rR := rR) (rT := rT) (rL := rL) (rQ := rQ) (mS := mS) (mT := mT) (mK := mK) (mF := mF) (mG := mG) (m1 := m1) (m2 := m2) (wN := wN) (wF := wF) (yN := yN) (yF := yF) (iK := iK) (eN := eN) (eO := eO) (eV := eV) (eZ := eZ) (eQ := eQ) (eU := eU) (eW := eW) (eS := eS) (eB := eB) (jK := jK) (fN := fN) (fO := fO) (fV := fV) (fZ := fZ) (fQ := fQ) (fU := fU) (fW := fW) (fS := fS) (fB := fB) (h0N := h0N) (h0L := h0L) (h0C := h0C) (h1N := h1N) (h1L := h1L) (h1C := h1C) (h2N := h2N) (h2L := h2L) (h2C := h2C) (h3N := h3N) (h3L := h3L) (h3C := h3C) hT h1 h2 hq he
  have g6 := x_spells_6 (d := d) (q := q) (e := e) (tN := tN) (tB := tB) (pF := pF) (pA := pA) (pT := pT) (pB := pB) (dN := dN) (dO := dO) (dV := dV) (dZ := dZ) (dQ := dQ) (dU := dU) (dW := dW) (sN := sN) (sO := sO) (sV := sV) (sZ := sZ) (sQ := sQ) (sU := sU) (sW := sW) (rN := rN) (rP := rP) (rK := rK) (rF := rF) (rR := rR) (rT := rT) (rL := rL) (rQ := rQ) (mS := mS) (mT := mT) (mK := mK) (mF := mF) (mG := mG) (m1 := m1) (m2 := m2) (wN := wN) (wF := wF) (yN := yN) (yF := yF) (iK := iK) (eN := eN) (eO := eO) (eV := eV) (eZ := eZ) (eQ := eQ) (eU := eU) (eW := eW) (eS := eS) (eB := eB) (jK := jK) (fN := fN) (fO := fO) (fV := fV) (fZ := fZ) (fQ := fQ) (fU := fU) (fW := fW) (fS := fS) (fB := fB) (h0N := h0N) (h0L := h0L) (h0C := h0C) (h1N := h1N) (h1L := h1L) (h1C := h1C) (h2N := h2N) (h2L := h2L) (h2C := h2C) (h3N := h3N) (h3L := h3L) (h3C := h3C) hT h1 h2 hq he
  have g7 := x_spells_7 (d := d) (q := q) (e := e) (tN := tN) (tB := tB) (pF := pF) (pA := pA) (pT := pT) (pB := pB) (dN := dN) (dO := dO) (dV := dV) (dZ := dZ) (dQ := dQ) (dU := dU) (dW := dW) (sN := sN) (sO := sO) (sV := sV) (sZ := sZ) (sQ := sQ) (sU := sU) (sW := sW) (rN := rN) (rP := rP) (rK := rK) (rF := rF) (rR := rR) (rT := rT) (rL := rL) (rQ := rQ) (mS := mS) (mT := mT) (mK := mK) (mF := mF) (mG := mG) (m1 := m1) (m2 := m2) (wN := wN) (wF := wF) (yN := yN) (yF := yF) (iK := iK) (eN := eN) (eO := eO) (eV := eV) (eZ := eZ) (eQ := eQ) (eU := eU) (eW := eW) (eS := eS) (eB := eB) (jK := jK) (fN := fN) (fO := fO) (fV := fV) (fZ := fZ) (fQ := fQ) (fU := fU) (fW := fW) (fS := fS) (fB := fB) (h0N := h0N) (h0L := h0L) (h0C := h0C) (h1N := h1N) (h1L := h1L) (h1C := h1C) (h2N := h2N) (h2L := h2L) (h2C := h2C) (h3N := h3N) (h3L := h3L) (h3C := h3C) hT h1 h2 hq he
  have g8 := x_spells_8 (d := d) (q := q) (e := e) (tN := tN) (tB := tB) (pF := pF) (pA := pA) (pT := pT) (pB := pB) (dN := dN) (dO := dO) (dV := dV) (dZ := dZ) (dQ := dQ) (dU := dU) (dW := dW) (sN := sN) (sO := sO) (sV := sV) (sZ := sZ) (sQ := sQ) (sU := sU) (sW := sW) (rN := rN) (rP := rP) (rK := rK) (rF := rF) (rR := rR) (rT := rT) (rL := rL) (rQ := rQ) (mS := mS) (mT := mT) (mK := mK) (mF := mF) (mG := mG) (m1 := m1) (m2 := m2) (wN := wN) (wF := wF) (yN := yN) (yF := yF) (iK := iK) (eN := eN) (eO := eO) (eV := eV) (eZ := eZ) (eQ := eQ) (eU := eU) (eW := eW) (eS := eS) (eB := eB) (jK := jK) (fN := fN) (fO := fO) (fV := fV) (fZ := fZ) (fQ := fQ) (fU := fU) (fW := fW) (fS := fS) (fB := fB) (h0N := h0N) (h0L := h0L) (h0C := h0C) (h1N := h1N) (h1L := h1L) (h1C := h1C) (h2N := h2N) (h2L := h2L) (h2C := h2C) (h3N := h3N) (h3L := h3L) (h3C := h3C) hT h1 h2 hq he
  refine b_X2_nameToken_0 ?_
  refine ⟨_, g0, ?_⟩
  by_cases m0 : mtw t q e (wds.getD 0 []) = true
  · rw [if_pos m0]
    exact cn (by decide) ⟨by rw [tcd_k (k := 0) (by decide) m0]; rfl, rfl⟩
  · rw [if_neg m0]
    refine cy rfl ?_
    refine ⟨_, g1, ?_⟩
    by_cases m1 : mtw t q e (wds.getD 1 []) = true
    · rw [if_pos m1]
      exact cn (by decide) ⟨by rw [tcd_k (k := 1) (by decide) m1]; rfl, rfl⟩
    · rw [if_neg m1]
      refine cy rfl ?_
      refine ⟨_, g2, ?_⟩
      by_cases m2 : mtw t q e (wds.getD 2 []) = true
      · rw [if_pos m2]
        exact cn (by decide) ⟨by rw [tcd_k (k := 2) (by decide) m2]; rfl, rfl⟩
      · rw [if_neg m2]
        refine cy rfl ?_
        refine ⟨_, g3, ?_⟩
        by_cases m3 : mtw t q e (wds.getD 3 []) = true
        · rw [if_pos m3]
          exact cn (by decide) ⟨by rw [tcd_k (k := 3) (by decide) m3]; rfl, rfl⟩
        · rw [if_neg m3]
          refine cy rfl ?_
          refine ⟨_, g4, ?_⟩
          by_cases m4 : mtw t q e (wds.getD 4 []) = true
          · rw [if_pos m4]
            exact cn (by decide) ⟨by rw [tcd_k (k := 4) (by decide) m4]; rfl, rfl⟩
          · rw [if_neg m4]
            refine cy rfl ?_
            refine ⟨_, g5, ?_⟩
            by_cases m5 : mtw t q e (wds.getD 5 []) = true
            · rw [if_pos m5]
              exact cn (by decide) ⟨by rw [tcd_k (k := 5) (by decide) m5]; rfl, rfl⟩
            · rw [if_neg m5]
              refine cy rfl ?_
              refine ⟨_, g6, ?_⟩
              by_cases m6 : mtw t q e (wds.getD 6 []) = true
              · rw [if_pos m6]
                exact cn (by decide) ⟨by rw [tcd_k (k := 6) (by decide) m6]; rfl, rfl⟩
              · rw [if_neg m6]
                refine cy rfl ?_
                refine ⟨_, g7, ?_⟩
                by_cases m7 : mtw t q e (wds.getD 7 []) = true
                · rw [if_pos m7]
                  exact cn (by decide) ⟨by rw [tcd_k (k := 7) (by decide) m7]; rfl, rfl⟩
                · rw [if_neg m7]
                  refine cy rfl ?_
                  refine ⟨_, g8, ?_⟩
                  by_cases m8 : mtw t q e (wds.getD 8 []) = true
                  · rw [if_pos m8]
                    exact cn (by decide) ⟨by rw [tcd_k (k := 8) (by decide) m8]; rfl, rfl⟩
                  · rw [if_neg m8]
                    refine cy rfl ⟨?_, rfl⟩
                    rw [tcd_no (fun k hk => ?_)]
                    · rfl
                    · have : k = 0 ∨ k = 1 ∨ k = 2 ∨ k = 3 ∨ k = 4 ∨ k = 5 ∨ k = 6 ∨ k = 7 ∨ k = 8 := by omega
                      rcases this with rfl | rfl | rfl | rfl | rfl | rfl | rfl | rfl | rfl
                      · exact Bool.eq_false_iff.mpr m0
                      · exact Bool.eq_false_iff.mpr m1
                      · exact Bool.eq_false_iff.mpr m2
                      · exact Bool.eq_false_iff.mpr m3
                      · exact Bool.eq_false_iff.mpr m4
                      · exact Bool.eq_false_iff.mpr m5
                      · exact Bool.eq_false_iff.mpr m6
                      · exact Bool.eq_false_iff.mpr m7
                      · exact Bool.eq_false_iff.mpr m8
