/-! feed, end: the tape -/
theorem nI_eq_iff {a b : Nat} (ha : a < 2 ^ 31) (hb : b < 2 ^ 31) : nI a = nI b ↔ a = b := nI_eq ha hb
theorem i_lt0 {c : Int32} (h : ¬ c < 0) : ∃ k : Nat, k < 2 ^ 31 ∧ c = nI k := nI_of h
theorem nar_byte {k : Nat} (h : k < 128) : vp_nar .byte ((nI k).toInt8.toInt32) = nI k := by
  revert k
  decide +kernel
theorem l_feed {d : Nat} {tN : Int32} {tB : Nat → Int32} {pF pA pT pB dN dO dV dZ : Int32} {dQ dU dW : Nat → Int32} {sN sO sV sZ : Int32} {sQ sU sW : Nat → Int32} {rN : Int32} {rP rK rF rR rT rL rQ : Nat → Int32} {mS : Int32} {mT : Nat → Int64} {mK : Nat → Int32} {mF : Nat → Int64} {mG m1 m2 : Nat → Int32} {wN : Int32} {wF : Int64} {yN : Int32} {yF : Int64} {iK eN eO eV eZ : Int32} {eQ eU eW : Nat → Int32} {eS : Int32} {eB : Int64} {jK fN fO fV fZ : Int32} {fQ fU fW : Nat → Int32} {fS : Int32} {fB : Int64} {h0N h0L : Int32} {h0C : Nat → Int32} {h1N h1L : Int32} {h1C : Nat → Int32} {h2N h2L : Int32} {h2C : Nat → Int32} {h3N h3L : Int32} {h3C : Nat → Int32} {st draft kept isKept tape : Nat → Int32} {taped pos begun sort fault wrongAt : Int32} {rows places aheads : Nat → Int32} {readings isFound : Int32} {now at_ place rank : Nat → Int32} {nounBits verbBits inner table next : Nat → Int64} {powers : Nat → Int32} {things : Int32} {holding patterns : Nat → Int64} {seeded : Int32} {lanes sizes cells : Nat → Int32} {c : Int32} (R : r_tape tN tB taped tape) : ∃ (v : Int32) (tN' : Int32) (tB' : Nat → Int32) (taped' : Int32) (tape' : Nat → Int32), Go d 56 0 [some (.ref 0), some (.int c)] [] (hX tN tB pF pA pT pB dN dO dV dZ dQ dU dW sN sO sV sZ sQ sU sW rN rP rK rF rR rT rL rQ mS mT mK mF mG m1 m2 wN wF yN yF iK eN eO eV eZ eQ eU eW eS eB jK fN fO fV fZ fQ fU fW fS fB h0N h0L h0C h1N h1L h1C h2N h2L h2C h3N h3L h3C) (some (.int v)) (hX tN' tB' pF pA pT pB dN dO dV dZ dQ dU dW sN sO sV sZ sQ sU sW rN rP rK rF rR rT rL rQ mS mT mK mF mG m1 m2 wN wF yN yF iK eN eO eV eZ eQ eU eW eS eB jK fN fO fV fZ fQ fU fW fS fB h0N h0L h0C h1N h1L h1C h2N h2L h2C h3N h3L h3C) ∧ Go (d + 1) 105 0 [some (.ref 0), some (.int c)] [] (hM st draft kept isKept tape taped pos begun sort fault wrongAt rows places aheads readings isFound now at_ place rank nounBits verbBits inner table next powers things holding patterns seeded lanes sizes cells) (some (.int v)) (hM st draft kept isKept tape' taped' pos begun sort fault wrongAt rows places aheads readings isFound now at_ place rank nounBits verbBits inner table next powers things holding patterns seeded lanes sizes cells) ∧ r_tape tN' tB' taped' tape' := by
  obtain ⟨T, hT, rfl, rfl, hj⟩ := R
  by_cases h0 : c < 0
  · refine ⟨-1, _, _, _, _, b_X8_feed_0 ⟨fun _ => ⟨rfl, rfl⟩, fun q => absurd h0 q⟩, b_X9_feed_0 ⟨fun q => absurd h0 (Int32.not_lt.mpr q.1), fun _ => ⟨rfl, rfl⟩⟩, T, hT, rfl, rfl, hj⟩
  obtain ⟨k, hk, rfl⟩ := i_lt0 h0
  by_cases h1 : k < 128
  · have hc : nI k ≤ (127 : Int32) := nI_le (a := k) (b := 127) (by omega) (by decide)
    have hp : (0 : Int32) ≤ nI k := nI_pos' hk
    by_cases h2 : T = 200
    · subst h2
      refine ⟨-3, _, _, _, _, b_X8_feed_0 ⟨fun q => absurd q h0, fun _ => ⟨fun _ => ⟨fun q => absurd q (nI_nlt (a := 200) (b := 200) (by omega) (by decide)), fun _ => ⟨rfl, rfl⟩⟩, fun q => absurd hc q⟩⟩, b_X9_feed_0 ⟨fun _ => ⟨fun q => absurd rfl q, fun _ => ⟨rfl, rfl⟩⟩, fun q => absurd ⟨hp, hc⟩ q⟩, 200, hT, rfl, rfl, hj⟩
    · have hlt : nI T < (200 : Int32) := nI_lt (a := T) (b := 200) (by omega) (by decide)
      have hne : ¬ nI T = (200 : Int32) := fun q => h2 ((nI_eq (a := T) (b := 200) (by omega) (by decide)).mp q)
      refine ⟨nI T + 1, _, _, _, _, b_X8_feed_0 ⟨fun q => absurd q h0, fun _ => ⟨fun _ => ⟨fun _ => ⟨T, rfl, by omega, rfl, rfl⟩, fun q => absurd hlt q⟩, fun q => absurd hc q⟩⟩, b_X9_feed_0 ⟨fun _ => ⟨fun _ => ⟨T, rfl, by omega, rfl, rfl⟩, fun q => absurd q hne⟩, fun q => absurd ⟨hp, hc⟩ q⟩, T + 1, by omega, nI_1 T, nI_1 T, fun j hj2 => ?_⟩
      by_cases hjT : j = T
      · subst hjT
        rw [pk_us, pk_us, nar_byte h1]
        exact ⟨rfl, k, h1, rfl⟩
      · rw [pk_un hjT, pk_un hjT]
        exact hj j (by omega)
  · have hc : ¬ nI k ≤ (127 : Int32) := nI_ge (a := 127) (b := k) (by omega) hk
    refine ⟨-1, _, _, _, _, b_X8_feed_0 ⟨fun q => absurd q h0, fun _ => ⟨fun q => absurd q hc, fun _ => ⟨rfl, rfl⟩⟩⟩, b_X9_feed_0 ⟨fun q => absurd q.2 hc, fun _ => ⟨rfl, rfl⟩⟩, T, hT, rfl, rfl, hj⟩
