/-! switches -/
section GOS
variable {d mi pc : Nat} {L : aL} {S R : List Value} {h h' : aH} {v : Option Value} {x : Int32}
theorem Go.swd {dd hi : Int} {os : Array Int} {ln t : Nat} {ts : List Nat} (hl : ab_look (ab_mt mi).2 pc = some (.tableswitch dd 0 hi os, ln, t :: ts)) (hx : x.toInt < 0 ∨ hi < x.toInt) (g : Go d mi t L R h v h') : Go d mi pc L (.int x :: R) h v h' := by
  refine Go.s1 (w := none) hl ?_ g
  show ab_tsw 0 hi (t :: ts) L (.int x :: R) = _
  simp only [ab_tsw, if_pos hx]
  rfl
theorem Go.swi {dd hi : Int} {os : Array Int} {ln t u k : Nat} {ts : List Nat} (hl : ab_look (ab_mt mi).2 pc = some (.tableswitch dd 0 hi os, ln, t :: ts)) (hx : x.toInt = (k : Int)) (hk : (k : Int) ≤ hi) (hu : ts[k]? = some u) (g : Go d mi u L R h v h') : Go d mi pc L (.int x :: R) h v h' := by
  refine Go.s1 (w := none) (pc' := u) (L' := L) (S' := R) hl ?_ g
  show ab_tsw 0 hi (t :: ts) L (.int x :: R) = _
  have h1 : ¬ (x.toInt < 0 ∨ hi < x.toInt) := by omega
  have h2 : (x.toInt - 0).toNat + 1 = k + 1 := by omega
  simp only [ab_tsw, if_neg h1, h2, List.getElem?_cons_succ, hu]
  rfl
theorem ab_tI {x : Int32} {k : Nat} (hk : k < 2 ^ 31) (h : x.toInt = (k : Int)) : x = nI k := by
  rw [← Int32.toInt_inj, nI_toInt hk]
  exact h
theorem Go.sw3 {dd : Int} {os : Array Int} {ln t a0 a1 a2 : Nat} (hl : ab_look (ab_mt mi).2 pc = some (.tableswitch dd 0 2 os, ln, [t, a0, a1, a2])) (g : (x = 0 → Go d mi a0 L R h v h') ∧ (x = 1 → Go d mi a1 L R h v h') ∧ (x = 2 → Go d mi a2 L R h v h') ∧ (¬ x = 0 → ¬ x = 1 → ¬ x = 2 → Go d mi t L R h v h')) : Go d mi pc L (.int x :: R) h v h' := by
  by_cases h0 : x = 0
  · exact Go.swi (k := 0) hl (by rw [h0]; rfl) (by decide) rfl (g.1 h0)
  by_cases h1 : x = 1
  · exact Go.swi (k := 1) hl (by rw [h1]; rfl) (by decide) rfl (g.2.1 h1)
  by_cases h2 : x = 2
  · exact Go.swi (k := 2) hl (by rw [h2]; rfl) (by decide) rfl (g.2.2.1 h2)
  refine Go.swd hl ?_ (g.2.2.2 h0 h1 h2)
  rcases (by omega : x.toInt < 0 ∨ 0 ≤ x.toInt) with z | z
  · exact Or.inl z
  · right
    refine Int.not_le.mp fun y => ?_
    obtain ⟨k, hk⟩ := Int.eq_ofNat_of_zero_le z
    rw [hk] at y
    have e := ab_tI (x := x) (k := k) (by omega) hk
    have : k = 0 ∨ k = 1 ∨ k = 2 := by omega
    rcases this with rfl | rfl | rfl
    · exact h0 e
    · exact h1 e
    · exact h2 e
theorem Go.sw6 {dd : Int} {os : Array Int} {ln t a0 a1 a2 a3 a4 a5 : Nat} (hl : ab_look (ab_mt mi).2 pc = some (.tableswitch dd 0 5 os, ln, [t, a0, a1, a2, a3, a4, a5])) (g : (x = 0 → Go d mi a0 L R h v h') ∧ (x = 1 → Go d mi a1 L R h v h') ∧ (x = 2 → Go d mi a2 L R h v h') ∧ (x = 3 → Go d mi a3 L R h v h') ∧ (x = 4 → Go d mi a4 L R h v h') ∧ (x = 5 → Go d mi a5 L R h v h') ∧ (¬ x = 0 → ¬ x = 1 → ¬ x = 2 → ¬ x = 3 → ¬ x = 4 → ¬ x = 5 → Go d mi t L R h v h')) : Go d mi pc L (.int x :: R) h v h' := by
  obtain ⟨g0, g1, g2, g3, g4, g5, gd⟩ := g
  by_cases h0 : x = 0
  · exact Go.swi (k := 0) hl (by rw [h0]; rfl) (by decide) rfl (g0 h0)
  by_cases h1 : x = 1
  · exact Go.swi (k := 1) hl (by rw [h1]; rfl) (by decide) rfl (g1 h1)
  by_cases h2 : x = 2
  · exact Go.swi (k := 2) hl (by rw [h2]; rfl) (by decide) rfl (g2 h2)
  by_cases h3 : x = 3
  · exact Go.swi (k := 3) hl (by rw [h3]; rfl) (by decide) rfl (g3 h3)
  by_cases h4 : x = 4
  · exact Go.swi (k := 4) hl (by rw [h4]; rfl) (by decide) rfl (g4 h4)
  by_cases h5 : x = 5
  · exact Go.swi (k := 5) hl (by rw [h5]; rfl) (by decide) rfl (g5 h5)
  refine Go.swd hl ?_ (gd h0 h1 h2 h3 h4 h5)
  rcases (by omega : x.toInt < 0 ∨ 0 ≤ x.toInt) with z | z
  · exact Or.inl z
  · right
    refine Int.not_le.mp fun y => ?_
    obtain ⟨k, hk⟩ := Int.eq_ofNat_of_zero_le z
    rw [hk] at y
    have e := ab_tI (x := x) (k := k) (by omega) hk
    have : k = 0 ∨ k = 1 ∨ k = 2 ∨ k = 3 ∨ k = 4 ∨ k = 5 := by omega
    rcases this with rfl | rfl | rfl | rfl | rfl | rfl
    · exact h0 e
    · exact h1 e
    · exact h2 e
    · exact h3 e
    · exact h4 e
    · exact h5 e
theorem Go.lsw {dd : Int} {ps : Array (Int × Int)} {ln t a0 a1 : Nat} (hl : ab_look (ab_mt mi).2 pc = some (.lookupswitch dd ps, ln, [t, a0, a1])) (g : (x = 0 → Go d mi a0 L R h v h') ∧ (x = 1 → Go d mi a1 L R h v h') ∧ (¬ x = 0 → ¬ x = 1 → Go d mi t L R h v h')) : Go d mi pc L (.int x :: R) h v h' := by
  by_cases h0 : x = 0
  · refine Go.s1 (w := none) (pc' := a0) (L' := L) (S' := R) hl ?_ (g.1 h0)
    show ab_lsw [t, a0, a1] L (.int x :: R) = _
    simp only [ab_lsw, if_pos h0]; rfl
  by_cases h1 : x = 1
  · refine Go.s1 (w := none) (pc' := a1) (L' := L) (S' := R) hl ?_ (g.2.1 h1)
    show ab_lsw [t, a0, a1] L (.int x :: R) = _
    simp only [ab_lsw, if_neg h0, if_pos h1]; rfl
  · refine Go.s1 (w := none) (pc' := t) (L' := L) (S' := R) hl ?_ (g.2.2 h0 h1)
    show ab_lsw [t, a0, a1] L (.int x :: R) = _
    simp only [ab_lsw, if_neg h0, if_neg h1]; rfl
end GOS
