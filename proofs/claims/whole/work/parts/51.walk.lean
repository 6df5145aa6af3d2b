/-! meaning: the class's side: the walk through a reading -/
theorem bI_eq {x : Int32} (h : x = 0 ∨ x = 1) : x = nI (bI x) ∧ bI x < 2 := by
  rcases h with rfl | rfl <;> decide
theorem x_topFact {d n o k : Nat} (hk1 : 1 ≤ k) (hk : k ≤ 4) {G : Nat → Nat} {tN : Int32} {tB : Nat → Int32} {pF pA pT pB dN dO dV dZ : Int32} {dQ dU dW : Nat → Int32} {sN sO sV sZ : Int32} {sQ sU sW : Nat → Int32} {rN : Int32} {rP rK rF rR rT rL rQ : Nat → Int32} {mS : Int32} {mT : Nat → Int64} {mK : Nat → Int32} {mF : Nat → Int64} {mG m1 m2 : Nat → Int32} {wN : Int32} {wF : Int64} {yN : Int32} {yF : Int64} {iK eN eO eV eZ : Int32} {eQ eU eW : Nat → Int32} {eS : Int32} {eB : Int64} {jK fN fO fV fZ : Int32} {fQ fU fW : Nat → Int32} {fS : Int32} {fB : Int64} {h0N h0L : Int32} {h0C : Nat → Int32} {h1N h1L : Int32} {h1C : Nat → Int32} {h2N h2L : Int32} {h2C : Nat → Int32} {h3N h3L : Int32} {h3C : Nat → Int32} (hS : sn_ok n o sV sQ sU sW) (hO : sO = nI o) (hM : mS = nI k) (h0 : mG 0 = nI (G 0)) (h1 : mG o = nI (G o)) (hG : ∀ p, G p < k) : Go (d + 1) 12 0 [some (.ref 20), some (.ref 8), none, none] [] (hX tN tB pF pA pT pB dN dO dV dZ dQ dU dW sN sO sV sZ sQ sU sW rN rP rK rF rR rT rL rQ mS mT mK mF mG m1 m2 wN wF yN yF iK eN eO eV eZ eQ eU eW eS eB jK fN fO fV fZ fQ fU fW fS fB h0N h0L h0C h1N h1L h1C h2N h2L h2C h3N h3L h3C) (some (.long (ev_en n o k sV sU sW mF 4 G))) (hX tN tB pF pA pT pB dN dO dV dZ dQ dU dW sN sO sV sZ sQ sU sW rN rP rK rF rR rT rL rQ mS mT mK mF mG m1 m2 wN wF yN yF iK eN eO eV eZ eQ eU eW eS eB jK fN fO fV fZ fQ fU fW fS fB h0N h0L h0C h1N h1L h1C h2N h2L h2C h3N h3L h3C) := by
  obtain ⟨_, hn4, ho1, hon, hV, _⟩ := hS
  obtain ⟨v1, v2⟩ := bI_eq hV
  have b := (wd_verb hk1 hk v2 (hG 0) (hG o)).1
  have h40 := wd_n_lt hk
  have e2 : (((2 : Int32) * mS) + (((sV * mS) + mG 0) * mS)) + mG o = nI (2 * k + (bI sV * k + G 0) * k + G o) := by
    rw [hM, h0, h1]
    have e : sV * nI k = nI (bI sV * k) := by
      have := pk_mul (bI sV) k
      rw [← v1] at this
      exact this
    rw [e, nI_add, pk_mul, show (2 : Int32) = nI 2 from rfl, pk_mul, nI_add, nI_add]
  exact b_X1_topFact_0 (x_ge0 o (pk_lt o 4 (fun _ => ⟨o, hO, by omega, x_ge0 (2 * k + (bI sV * k + G 0) * k + G o) (pk_le 40 (2 * k + (bI sV * k + G 0) * k + G o) (fun z => by omega) (fun _ => ⟨2 * k + (bI sV * k + G 0) * k + G o, e2, by omega, rfl, rfl⟩) rfl e2) e2⟩) (fun z => by omega) hO) hO)
theorem x_hostFact {d n o k a : Nat} (hk1 : 1 ≤ k) (hk : k ≤ 4) {G : Nat → Nat} {tN : Int32} {tB : Nat → Int32} {pF pA pT pB dN dO dV dZ : Int32} {dQ dU dW : Nat → Int32} {sN sO sV sZ : Int32} {sQ sU sW : Nat → Int32} {rN : Int32} {rP rK rF rR rT rL rQ : Nat → Int32} {mS : Int32} {mT : Nat → Int64} {mK : Nat → Int32} {mF : Nat → Int64} {mG m1 m2 : Nat → Int32} {wN : Int32} {wF : Int64} {yN : Int32} {yF : Int64} {iK eN eO eV eZ : Int32} {eQ eU eW : Nat → Int32} {eS : Int32} {eB : Int64} {jK fN fO fV fZ : Int32} {fQ fU fW : Nat → Int32} {fS : Int32} {fB : Int64} {h0N h0L : Int32} {h0C : Nat → Int32} {h1N h1L : Int32} {h1C : Nat → Int32} {h2N h2L : Int32} {h2C : Nat → Int32} {h3N h3L : Int32} {h3C : Nat → Int32} (hS : sn_ok n o sV sQ sU sW) (hM : mS = nI k) (ha : a < n) (h0 : mG a = nI (G a)) (h1 : ¬ (a + 1 = o ∨ a + 1 = n) → mG (a + 1) = nI (G (a + 1))) (hG : ∀ p, G p < k) : Go (d + 1) 13 0 [some (.ref 20), some (.ref 8), some (.int (nI a)), none, none, none, none, none] [] (hX tN tB pF pA pT pB dN dO dV dZ dQ dU dW sN sO sV sZ sQ sU sW rN rP rK rF rR rT rL rQ mS mT mK mF mG m1 m2 wN wF yN yF iK eN eO eV eZ eQ eU eW eS eB jK fN fO fV fZ fQ fU fW fS fB h0N h0L h0C h1N h1L h1C h2N h2L h2C h3N h3L h3C) (some (.long (ev_en n o k sV sU sW mF a G))) (hX tN tB pF pA pT pB dN dO dV dZ dQ dU dW sN sO sV sZ sQ sU sW rN rP rK rF rR rT rL rQ mS mT mK mF mG m1 m2 wN wF yN yF iK eN eO eV eZ eQ eU eW eS eB jK fN fO fV fZ fQ fU fW fS fB h0N h0L h0C h1N h1L h1C h2N h2L h2C h3N h3L h3C) := by
  have hS0 := hS
  obtain ⟨_, hn4, ho1, hon, hV, hp⟩ := hS
  obtain ⟨_, hU, hW⟩ := hp a ha
  obtain ⟨u1, u2⟩ := bI_eq hU
  have b := (wd_noun (k := k) hk1 u2 (hG a)).1
  have h40 := wd_n_lt hk
  have e : sU a * mS + mG a = nI (bI (sU a) * k + G a) := by
    rw [hM, h0]
    have := pk_mul (bI (sU a)) k
    rw [← u1] at this
    rw [this, nI_add]
  by_cases hg : a + 1 = o ∨ a + 1 = n
  · have w4 := (hS0.w4 ha).mpr hg
    refine b_X1_hostFact_0 ⟨a, rfl, by omega, a, rfl, by omega, x_ge0 (bI (sU a) * k + G a) (pk_le 40 (bI (sU a) * k + G a) (fun z => by omega) (fun _ => ⟨bI (sU a) * k + G a, e, by omega, -4, b_X4_guestOf_0 ⟨a, rfl, by omega, ny w4 ⟨rfl, rfl⟩⟩, cy (by decide) ⟨?_, rfl⟩⟩) rfl e) e⟩
    unfold ev_en
    rw [if_neg (by omega), if_pos hg]
  · have w4 : ¬ sW a = -4 := fun z => hg ((hS0.w4 ha).mp z)
    rw [if_neg hg] at hW
    obtain ⟨w1, w2⟩ := bI_eq hW
    have h1 := h1 hg
    have b2 := (wd_verb hk1 hk w2 (hG a) (hG (a + 1))).1
    have e2 : (((2 : Int32) * mS) + (((sW a * mS) + mG a) * mS)) + mG (a + 1) = nI (2 * k + (bI (sW a) * k + G a) * k + G (a + 1)) := by
      rw [hM, h0, h1]
      have := pk_mul (bI (sW a)) k
      rw [← w1] at this
      rw [this, nI_add, pk_mul, show (2 : Int32) = nI 2 from rfl, pk_mul, nI_add, nI_add]
    refine b_X1_hostFact_0 ⟨a, rfl, by omega, a, rfl, by omega, x_ge0 (bI (sU a) * k + G a) (pk_le 40 (bI (sU a) * k + G a) (fun z => by omega) (fun _ => ⟨bI (sU a) * k + G a, e, by omega, nI (a + 1), b_X4_guestOf_0 ⟨a, rfl, by omega, nn w4 ⟨by rw [nI_1], rfl⟩⟩, x_ge0 (a + 1) (pk_lt (a + 1) 4 (fun _ => ⟨a, rfl, by omega, a, rfl, by omega, a + 1, rfl, by omega, x_ge0 (2 * k + (bI (sW a) * k + G a) * k + G (a + 1)) (pk_le 40 (2 * k + (bI (sW a) * k + G a) * k + G (a + 1)) (fun z => by omega) (fun _ => ⟨2 * k + (bI (sW a) * k + G a) * k + G (a + 1), e2, by omega, ?_, rfl⟩) rfl e2) e2⟩) (fun z => by omega))⟩) rfl e) e⟩
    unfold ev_en
    rw [if_neg (by omega), if_neg hg]
theorem bx_not {i : Nat} (hi : i < 64) (a : Int64) : wd_bit (a ^^^ (Int64.ofNat 18446744073709551615)) i = !wd_bit a i := by
  have : wd_bit (Int64.ofNat 18446744073709551615) i = true := bx_m1 hi
  rw [bx_xor, this, Bool.xor_true]
theorem qt_zero {gd rs : Nat → Int64} {t : Nat} (h : gd t = 0) : qt_st gd rs (t + 1) = qt_st gd rs t := by
  have z : ∀ i, wd_bit (0 : Int64) i = false := bx_0
  have e1 : (qt_st gd rs t).1 &&& ((gd t ^^^ (Int64.ofNat 18446744073709551615)) ||| rs t) = (qt_st gd rs t).1 := bx_ext fun i hi => by rw [bx_and, bx_or, bx_not hi, h, z]; simp
  have e2 : (qt_st gd rs t).2.1 ||| (gd t &&& rs t) = (qt_st gd rs t).2.1 := bx_ext fun i hi => by rw [bx_or, bx_and, h, z]; simp
  have e3 : (qt_st gd rs t).2.2 ||| (((qt_st gd rs t).2.1 &&& gd t) &&& rs t) = (qt_st gd rs t).2.2 := bx_ext fun i hi => by rw [bx_or, bx_and, bx_and, h, z]; simp
  show ((qt_st gd rs t).1 &&& ((gd t ^^^ (Int64.ofNat 18446744073709551615)) ||| rs t), (qt_st gd rs t).2.1 ||| (gd t &&& rs t), (qt_st gd rs t).2.2 ||| (((qt_st gd rs t).2.1 &&& gd t) &&& rs t)) = _
  rw [e1, e2, e3]
theorem c1_n1 {n o a j x : Nat} {l : List Nat} (hn : n ≤ 4) (h : rd_kd n o l a j = some x) : ¬ c1 (rd_kd n o l a j) = -1 := by
  rw [h]
  have := (rd_kd_some h).1
  have h2 : ∀ p, p < 4 → ¬ nI p = (-1 : Int32) := by decide +kernel
  exact h2 x (by omega)
theorem c1_lt : c1 none < 0 := by decide
theorem x_walk {n o k : Nat} {l : List Nat} (hn : n ≤ 4) (hk1 : 1 ≤ k) (hk : k ≤ 4) : ∀ (f a j : Nat) (S : List Nat) (G : Nat → Nat) (dep d : Nat) {tN : Int32} {tB : Nat → Int32} {pF pA pT pB dN dO dV dZ : Int32} {dQ dU dW : Nat → Int32} {sN sO sV sZ : Int32} {sQ sU sW : Nat → Int32} {rN : Int32} {rP rK rF rR rT rL rQ : Nat → Int32} {mS : Int32} {mT : Nat → Int64} {mK : Nat → Int32} {mF : Nat → Int64} {mG m1 m2 : Nat → Int32} {wN : Int32} {wF : Int64} {yN : Int32} {yF : Int64} {iK eN eO eV eZ : Int32} {eQ eU eW : Nat → Int32} {eS : Int32} {eB : Int64} {jK fN fO fV fZ : Int32} {fQ fU fW : Nat → Int32} {fS : Int32} {fB : Int64} {h0N h0L : Int32} {h0C : Nat → Int32} {h1N h1L : Int32} {h1C : Nat → Int32} {h2N h2L : Int32} {h2C : Nat → Int32} {h3N h3L : Int32} {h3C : Nat → Int32}, sn_ok n o sV sQ sU sW → sO = nI o → mS = nI k → (∀ a, a < 5 → m1 a = c1 (rd_kd n o l a 0)) → (∀ y, y < n → m2 y = c1 (rd_kd n o l (rd_pl n o l y) (rd_rk n o l y + 1))) → rd_chk n o (rd_kd n o l) f a j S = true → (a = 4 ∨ a < n) → dep + f = 4 → (∀ p ∈ S, p < n ∧ mG p = nI (G p)) → (∀ p, G p < k) → ∃ mG' : Nat → Int32, (∀ p ∈ S, mG' p = mG p) ∧ Go (d + 2 * f + 2) 10 0 [some (.ref 20), some (.ref 8), some (.int (nI a)), some (.int (c1 (rd_kd n o l a j))), some (.int (nI dep))] [] (hX tN tB pF pA pT pB dN dO dV dZ dQ dU dW sN sO sV sZ sQ sU sW rN rP rK rF rR rT rL rQ mS mT mK mF mG m1 m2 wN wF yN yF iK eN eO eV eZ eQ eU eW eS eB jK fN fO fV fZ fQ fU fW fS fB h0N h0L h0C h1N h1L h1C h2N h2L h2C h3N h3L h3C) (some (.long (ev k sQ (rd_kd n o l) (ev_en n o k sV sU sW mF) f a j G))) (hX tN tB pF pA pT pB dN dO dV dZ dQ dU dW sN sO sV sZ sQ sU sW rN rP rK rF rR rT rL rQ mS mT mK mF mG' m1 m2 wN wF yN yF iK eN eO eV eZ eQ eU eW eS eB jK fN fO fV fZ fQ fU fW fS fB h0N h0L h0C h1N h1L h1C h2N h2L h2C h3N h3L h3C) := by
  intro f
  induction f with
  | zero =>
    intro a j S G dep d tN tB pF pA pT pB dN dO dV dZ dQ dU dW sN sO sV sZ sQ sU sW rN rP rK rF rR rT rL rQ mS mT mK mF mG m1 m2 wN wF yN yF iK eN eO eV eZ eQ eU eW eS eB jK fN fO fV fZ fQ fU fW fS fB h0N h0L h0C h1N h1L h1C h2N h2L h2C h3N h3L h3C hS hO hM h1 h2 hc ha hd hg hG
    unfold rd_chk at hc
    cases e : rd_kd n o l a j with
    | some x => rw [e] at hc; cases hc
    | none =>
      rw [e] at hc
      simp only at hc
      refine ⟨mG, fun _ _ => rfl, b_X1_walk_0 (cy c1_lt ?_)⟩
      have ee : ev k sQ (rd_kd n o l) (ev_en n o k sV sU sW mF) 0 a j G = ev_en n o k sV sU sW mF a G := by unfold ev; rw [e]
      rw [ee]
      by_cases h4 : a = 4
      · subst h4
        rw [if_pos rfl, Bool.and_eq_true] at hc
        refine x_ge0 4 (pk_le 4 4 (fun _ => ⟨_, x_topFact hk1 hk hS hO hM (hg 0 (List.contains_iff_mem.mp hc.1)).2 (hg o (List.contains_iff_mem.mp hc.2)).2 hG, rfl, rfl⟩) (fun z => by omega))
      · rw [if_neg h4, Bool.and_eq_true, Bool.or_eq_true] at hc
        refine x_ge0 a (pk_le 4 a (fun z => by omega) (fun _ => ⟨_, x_hostFact hk1 hk hS hM (by omega) (hg a (List.contains_iff_mem.mp hc.1)).2 (fun z => (hg (a + 1) (List.contains_iff_mem.mp (hc.2.resolve_left (fun w => z (of_decide_eq_true w))))).2) hG, rfl, rfl⟩))
  | succ f ih =>
    intro a j S G dep d tN tB pF pA pT pB dN dO dV dZ dQ dU dW sN sO sV sZ sQ sU sW rN rP rK rF rR rT rL rQ mS mT mK mF mG m1 m2 wN wF yN yF iK eN eO eV eZ eQ eU eW eS eB jK fN fO fV fZ fQ fU fW fS fB h0N h0L h0C h1N h1L h1C h2N h2L h2C h3N h3L h3C hS hO hM h1 h2 hc ha hd hg hG
    unfold rd_chk at hc
    cases e : rd_kd n o l a j with
    | none =>
      rw [e] at hc
      simp only at hc
      refine ⟨mG, fun _ _ => rfl, b_X1_walk_0 (cy c1_lt ?_)⟩
      have ee : ev k sQ (rd_kd n o l) (ev_en n o k sV sU sW mF) (f + 1) a j G = ev_en n o k sV sU sW mF a G := by rw [ev, e]
      rw [ee]
      by_cases h4 : a = 4
      · subst h4
        rw [if_pos rfl, Bool.and_eq_true] at hc
        refine x_ge0 4 (pk_le 4 4 (fun _ => ⟨_, x_topFact hk1 hk hS hO hM (hg 0 (List.contains_iff_mem.mp hc.1)).2 (hg o (List.contains_iff_mem.mp hc.2)).2 hG, rfl, rfl⟩) (fun z => by omega))
      · rw [if_neg h4, Bool.and_eq_true, Bool.or_eq_true] at hc
        refine x_ge0 a (pk_le 4 a (fun z => by omega) (fun _ => ⟨_, x_hostFact hk1 hk hS hM (by omega) (hg a (List.contains_iff_mem.mp hc.1)).2 (fun z => (hg (a + 1) (List.contains_iff_mem.mp (hc.2.resolve_left (fun w => z (of_decide_eq_true w))))).2) hG, rfl, rfl⟩))
    | some x =>
      rw [e] at hc
      simp only [Bool.and_eq_true, Bool.not_eq_true'] at hc
      obtain ⟨⟨hc1, hc2⟩, hc3⟩ := hc
      have hxS : ¬ x ∈ S := fun z => by rw [List.contains_iff_mem.mpr z] at hc1; cases hc1
      obtain ⟨hx, hxa, hxj⟩ := rd_kd_some e
      obtain ⟨gd, hgd⟩ : ∃ gd : Nat → Int64, gd = (fun t => ev k sQ (rd_kd n o l) (ev_en n o k sV sU sW mF) f x 0 (up G x t)) := ⟨_, rfl⟩
      obtain ⟨rs, hrs⟩ : ∃ rs : Nat → Int64, rs = (fun t => ev k sQ (rd_kd n o l) (ev_en n o k sV sU sW mF) f a (j + 1) (up G x t)) := ⟨_, rfl⟩
      have gd_t : ∀ t, ev k sQ (rd_kd n o l) (ev_en n o k sV sU sW mF) f x 0 (up G x t) = gd t := fun t => by rw [hgd]
      have rs_t : ∀ t, ev k sQ (rd_kd n o l) (ev_en n o k sV sU sW mF) f a (j + 1) (up G x t) = rs t := fun t => by rw [hrs]
      have loop : ∀ (m t : Nat) (mG : Nat → Int32), t + m = k → (∀ p ∈ S, p < n ∧ mG p = nI (G p)) → ∃ mG' : Nat → Int32, (∀ p ∈ S, mG' p = mG p) ∧ Go (d + 2 * f + 3) 11 14 [some (.ref 20), some (.ref 8), some (.int (nI a)), some (.int (nI x)), some (.int (nI dep)), some (.long (qt_st gd rs t).1), none, some (.long (qt_st gd rs t).2.1), none, some (.long (qt_st gd rs t).2.2), none, some (.int (nI t)), none, none, none, none] [] (hX tN tB pF pA pT pB dN dO dV dZ dQ dU dW sN sO sV sZ sQ sU sW rN rP rK rF rR rT rL rQ mS mT mK mF mG m1 m2 wN wF yN yF iK eN eO eV eZ eQ eU eW eS eB jK fN fO fV fZ fQ fU fW fS fB h0N h0L h0C h1N h1L h1C h2N h2L h2C h3N h3L h3C) (some (.long (qt (sQ x) (qt_st gd rs k)))) (hX tN tB pF pA pT pB dN dO dV dZ dQ dU dW sN sO sV sZ sQ sU sW rN rP rK rF rR rT rL rQ mS mT mK mF mG' m1 m2 wN wF yN yF iK eN eO eV eZ eQ eU eW eS eB jK fN fO fV fZ fQ fU fW fS fB h0N h0L h0C h1N h1L h1C h2N h2L h2C h3N h3L h3C) := by
        intro m
        induction m with
        | zero =>
          intro t mG ht hg
          have : t = k := by omega
          subst this
          refine ⟨mG, fun _ _ => rfl, b_X1_quantified_14 (pk_le t t (fun _ => ⟨x, rfl, by omega, ?_⟩) (fun z => by omega) hM)⟩
          unfold qt
          refine ⟨fun q => ⟨by rw [if_pos q], rfl⟩, fun q => ⟨by rw [if_neg (by rw [q]; decide), if_pos q], rfl⟩, fun q => ⟨by rw [if_neg (by rw [q]; decide), if_neg (by rw [q]; decide), if_pos q], rfl⟩, fun q1 q2 q3 => ⟨by rw [if_neg q1, if_neg q2, if_neg q3], rfl⟩⟩
        | succ m ihm =>
          intro t mG ht hg
          have hG' : ∀ p, up G x t p < k := fun p => by
            unfold up
            split
            · omega
            · exact hG p
          obtain ⟨mG1, p1, p2⟩ := ih x 0 (x :: S) (up G x t) (dep + 1) d (tN := tN) (tB := tB) (pF := pF) (pA := pA) (pT := pT) (pB := pB) (dN := dN) (dO := dO) (dV := dV) (dZ := dZ) (dQ := dQ) (dU := dU) (dW := dW) (sN := sN) (sO := sO) (sV := sV) (sZ := sZ) (sQ := sQ) (sU := sU) (sW := sW) (rN := rN) (rP := rP) (rK := rK) (rF := rF) (rR := rR) (rT := rT) (rL := rL) (rQ := rQ) (mS := mS) (mT := mT) (mK := mK) (mF := mF) (mG := (upd mG x (nI t))) (m1 := m1) (m2 := m2) (wN := wN) (wF := wF) (yN := yN) (yF := yF) (iK := iK) (eN := eN) (eO := eO) (eV := eV) (eZ := eZ) (eQ := eQ) (eU := eU) (eW := eW) (eS := eS) (eB := eB) (jK := jK) (fN := fN) (fO := fO) (fV := fV) (fZ := fZ) (fQ := fQ) (fU := fU) (fW := fW) (fS := fS) (fB := fB) (h0N := h0N) (h0L := h0L) (h0C := h0C) (h1N := h1N) (h1L := h1L) (h1C := h1C) (h2N := h2N) (h2L := h2L) (h2C := h2C) (h3N := h3N) (h3L := h3L) (h3C := h3C) hS hO hM h1 h2 hc2 (Or.inr hx) (by omega) (fun p hp => by
            rcases List.mem_cons.mp hp with rfl | z
            · exact ⟨hx, by rw [pk_us]; unfold up; rw [if_pos rfl]⟩
            · have hne : p ≠ x := fun w => hxS (w ▸ z)
              exact ⟨(hg p z).1, by rw [pk_un hne]; unfold up; rw [if_neg hne]; exact (hg p z).2⟩) hG'
          rw [gd_t] at p2
          have hgS : ∀ mGz : Nat → Int32, (∀ p ∈ x :: S, mGz p = upd mG x (nI t) p) → ∀ p ∈ S, mGz p = mG p := fun mGz hz p hp => by
            rw [hz p (List.mem_cons_of_mem _ hp), pk_un (fun w : p = x => hxS (w ▸ hp))]
          by_cases hz : gd t = 0
          · obtain ⟨mG', r1, r2⟩ := ihm (t + 1) mG1 (by omega) (fun p hp => ⟨(hg p hp).1, by rw [hgS mG1 p1 p hp]; exact (hg p hp).2⟩)
            rw [qt_zero hz] at r2
            refine ⟨mG', fun p hp => by rw [r1 p hp, hgS mG1 p1 p hp], b_X1_quantified_14 (pk_le k t (fun z => by omega) (fun _ => ⟨x, rfl, by omega, x, rfl, by omega, gd t, mG1, ?_, cy ?_ (by rw [nI_1]; exact r2)⟩) hM)⟩
            · rw [h1 x (by omega), nI_1]; exact p2
            · rw [hz]; decide
          · obtain ⟨mG2, q1, q2⟩ := ih a (j + 1) (x :: S) (up G x t) (dep + 1) d (tN := tN) (tB := tB) (pF := pF) (pA := pA) (pT := pT) (pB := pB) (dN := dN) (dO := dO) (dV := dV) (dZ := dZ) (dQ := dQ) (dU := dU) (dW := dW) (sN := sN) (sO := sO) (sV := sV) (sZ := sZ) (sQ := sQ) (sU := sU) (sW := sW) (rN := rN) (rP := rP) (rK := rK) (rF := rF) (rR := rR) (rT := rT) (rL := rL) (rQ := rQ) (mS := mS) (mT := mT) (mK := mK) (mF := mF) (mG := mG1) (m1 := m1) (m2 := m2) (wN := wN) (wF := wF) (yN := yN) (yF := yF) (iK := iK) (eN := eN) (eO := eO) (eV := eV) (eZ := eZ) (eQ := eQ) (eU := eU) (eW := eW) (eS := eS) (eB := eB) (jK := jK) (fN := fN) (fO := fO) (fV := fV) (fZ := fZ) (fQ := fQ) (fU := fU) (fW := fW) (fS := fS) (fB := fB) (h0N := h0N) (h0L := h0L) (h0C := h0C) (h1N := h1N) (h1L := h1L) (h1C := h1C) (h2N := h2N) (h2L := h2L) (h2C := h2C) (h3N := h3N) (h3L := h3L) (h3C := h3C) hS hO hM h1 h2 hc3 ha (by omega) (fun p hp => by
              rw [p1 p hp]
              rcases List.mem_cons.mp hp with rfl | z
              · exact ⟨hx, by rw [pk_us]; unfold up; rw [if_pos rfl]⟩
              · have hne : p ≠ x := fun w => hxS (w ▸ z)
                exact ⟨(hg p z).1, by rw [pk_un hne]; unfold up; rw [if_neg hne]; exact (hg p z).2⟩) hG'
            rw [rs_t] at q2
            have hq : ∀ p ∈ x :: S, mG2 p = upd mG x (nI t) p := fun p hp => by rw [q1 p hp, p1 p hp]
            obtain ⟨mG', r1, r2⟩ := ihm (t + 1) mG2 (by omega) (fun p hp => ⟨(hg p hp).1, by rw [hgS mG2 hq p hp]; exact (hg p hp).2⟩)
            rw [qt_s1, qt_s2, qt_s3] at r2
            refine ⟨mG', fun p hp => by rw [r1 p hp, hgS mG2 hq p hp], b_X1_quantified_14 (pk_le k t (fun z => by omega) (fun _ => ⟨x, rfl, by omega, x, rfl, by omega, gd t, mG1, ?_, cn ?_ ⟨x, rfl, by omega, rs t, mG2, ?_, by rw [nI_1]; exact r2⟩⟩) hM)⟩
            · rw [h1 x (by omega), nI_1]; exact p2
            · intro z; exact hz ((lg_cmp_eq _ _).mp z)
            · rw [h2 x hx, hxa, hxj, nI_1]; exact q2
      obtain ⟨mG', r1, r2⟩ := loop k 0 mG (by omega) hg
      have ee : ev k sQ (rd_kd n o l) (ev_en n o k sV sU sW mF) (f + 1) a j G = qt (sQ x) (qt_st gd rs k) := by rw [ev, e, hgd, hrs]
      rw [qt_01, qt_02, qt_03] at r2
      have hd2 : d + 2 * (f + 1) + 2 = d + 2 * f + 3 + 1 := by omega
      rw [hd2, ee]
      exact ⟨mG', r1, b_X1_walk_0 (x_ge0 x (pk_lt x 4 (fun _ => cy (nI_lt (a := dep) (b := 4) (by omega) (by decide)) ⟨_, mG', b_X1_quantified_0 r2, rfl, rfl⟩) (fun z => by omega)))⟩
