/-! the small tests: blocks and what they answer -/
theorem Go.rb {d mi pc ln : Nat} {rs : List Nat} {L : aL} {h h' : aH} {v : Option Value} {P : Prop} [Decidable P] (hl : ab_look (ab_mt mi).2 pc = some (.ireturn, ln, rs)) (hb : (ab_mt mi).1 = some .boolean) (hv : some (.int (if P then (1 : Int32) else 0)) = v) (hh : h = h') : Go d mi pc L [.int (if P then (1 : Int32) else 0)] h v h' := by
  refine Go.rz hl hb ⟨?_, hv, hh⟩
  by_cases hp : P
  · rw [if_pos hp]; exact Or.inr rfl
  · rw [if_neg hp]; exact Or.inl rfl
theorem ab_64 (x y : Int32) : x.toInt64 ≤ y.toInt64 ↔ x ≤ y := by
  rw [Int64.le_iff_toInt_le, Int32.le_iff_toInt_le, Int32.toInt_toInt64, Int32.toInt_toInt64]
theorem ab_cmp0 (x y : Int64) : lg_cmp x y < 0 ↔ ¬ y ≤ x := by rw [lg_cmp_lt, Int64.not_le]
theorem ab_cmp1 (x y : Int64) : 0 < lg_cmp x y ↔ ¬ x ≤ y := by rw [lg_cmp_gt, Int64.not_le]
set_option maxRecDepth 100000 in
theorem b_X9_in_0 {d : Nat} {v : Option Value} {h' : aH} {σ : SM} {p0 : Int64} {p1 : Int64} {p2 : Int64}
    (g : ((lg_cmp p0 p1) < 0 → (some (.int ((0 : Int32))) : Option Value) = v ∧ hM σ = h') ∧ (¬ (lg_cmp p0 p1) < 0 → (0 < (lg_cmp p0 p2) → (some (.int ((0 : Int32))) : Option Value) = v ∧ hM σ = h') ∧ (¬ 0 < (lg_cmp p0 p2) → (some (.int ((1 : Int32))) : Option Value) = v ∧ hM σ = h'))) :
    Go (d) 102 0 [some (.long (p0)), none, some (.long (p1)), none, some (.long (p2)), none] [] (hM σ) v h' := by
  refine Go.mv (pc' := 3) (L' := [some (.long (p0)), none, some (.long (p1)), none, some (.long (p2)), none]) (S' := [.int ((lg_cmp p0 p1))]) (h1 := hM σ) 3 rfl ?_
  refine Go.zlt rfl ⟨fun c1 => ?_, fun c1 => ?_⟩
  · replace g := g.1 c1
    refine Go.mv (pc' := 18) (L' := [some (.long (p0)), none, some (.long (p1)), none, some (.long (p2)), none]) (S' := [.int ((0 : Int32))]) (h1 := hM σ) 1 rfl ?_
    exact Go.rt rfl rfl g.1 g.2
  · replace g := g.2 c1
    refine Go.mv (pc' := 10) (L' := [some (.long (p0)), none, some (.long (p1)), none, some (.long (p2)), none]) (S' := [.int ((lg_cmp p0 p2))]) (h1 := hM σ) 3 rfl ?_
    refine Go.zgt rfl ⟨fun c2 => ?_, fun c2 => ?_⟩
    · replace g := g.1 c2
      refine Go.mv (pc' := 18) (L' := [some (.long (p0)), none, some (.long (p1)), none, some (.long (p2)), none]) (S' := [.int ((0 : Int32))]) (h1 := hM σ) 1 rfl ?_
      exact Go.rt rfl rfl g.1 g.2
    · replace g := g.2 c2
      refine Go.mv (pc' := 18) (L' := [some (.long (p0)), none, some (.long (p1)), none, some (.long (p2)), none]) (S' := [.int ((1 : Int32))]) (h1 := hM σ) 2 rfl ?_
      exact Go.rt rfl rfl g.1 g.2
theorem c_X9_in {d : Nat} {σ : SM} {x lo hi : Int32} : Go d 102 0 [some (.long x.toInt64), none, some (.long lo.toInt64), none, some (.long hi.toInt64), none] [] (hM σ) (some (.int (if lo ≤ x ∧ x ≤ hi then (1 : Int32) else 0))) (hM σ) := by
  refine b_X9_in_0 ⟨fun c => ⟨?_, rfl⟩, fun c => ⟨fun e => ⟨?_, rfl⟩, fun e => ⟨?_, rfl⟩⟩⟩
  · rw [ab_cmp0, ab_64] at c
    rw [if_neg (fun z => c z.1)]
  · rw [ab_cmp1, ab_64] at e
    rw [if_neg (fun z => e z.2)]
  · rw [ab_cmp0, ab_64] at c
    rw [ab_cmp1, ab_64] at e
    rw [if_pos ⟨Decidable.not_not.mp c, Decidable.not_not.mp e⟩]
set_option maxRecDepth 100000 in
theorem b_X9_flag_0 {d : Nat} {v : Option Value} {h' : aH} {σ : SM} {p0 : Int32}
    (g : (p0 = 0 → (some (.int ((0 : Int32))) : Option Value) = v ∧ hM σ = h') ∧ (¬ p0 = 0 → (some (.int ((1 : Int32))) : Option Value) = v ∧ hM σ = h')) :
    Go (d) 103 0 [some (.int (p0))] [] (hM σ) v h' := by
  refine Go.mv (pc' := 1) (L' := [some (.int (p0))]) (S' := [.int (p0)]) (h1 := hM σ) 1 rfl ?_
  refine Go.zeq rfl ⟨fun c1 => ?_, fun c1 => ?_⟩
  · replace g := g.1 c1
    refine Go.mv (pc' := 9) (L' := [some (.int (p0))]) (S' := [.int ((0 : Int32))]) (h1 := hM σ) 1 rfl ?_
    exact Go.rt rfl rfl g.1 g.2
  · replace g := g.2 c1
    refine Go.mv (pc' := 9) (L' := [some (.int (p0))]) (S' := [.int ((1 : Int32))]) (h1 := hM σ) 2 rfl ?_
    exact Go.rt rfl rfl g.1 g.2
theorem c_X9_flag {d : Nat} {σ : SM} {x : Int32} : Go d 103 0 [some (.int x)] [] (hM σ) (some (.int (if ¬ x = 0 then (1 : Int32) else 0))) (hM σ) := by
  refine b_X9_flag_0 ⟨fun c => ⟨by rw [if_neg (fun z => z c)], rfl⟩, fun c => ⟨by rw [if_pos c], rfl⟩⟩
theorem c_X9_flag_b {d : Nat} {σ : SM} {P : Prop} [Decidable P] : Go d 103 0 [some (.int (if P then (1 : Int32) else 0))] [] (hM σ) (some (.int (if P then (1 : Int32) else 0))) (hM σ) := by
  refine b_X9_flag_0 ⟨fun c => ⟨by rw [if_neg (ab_bf c)], rfl⟩, fun c => ⟨by rw [if_pos (ab_bt c)], rfl⟩⟩
set_option maxRecDepth 100000 in
theorem b_X9_allOrNone_0 {d : Nat} {v : Option Value} {h' : aH} {σ : SM} {p0 : Int32}
    (g : (p0 = 0 → (some (.long ((0 : Int64))) : Option Value) = v ∧ hM σ = h') ∧ (¬ p0 = 0 → (some (.long ((Int64.ofNat 18446744073709551615))) : Option Value) = v ∧ hM σ = h')) :
    Go (d) 131 0 [some (.int (p0))] [] (hM σ) v h' := by
  refine Go.mv (pc' := 1) (L' := [some (.int (p0))]) (S' := [.int (p0)]) (h1 := hM σ) 1 rfl ?_
  refine Go.zeq rfl ⟨fun c1 => ?_, fun c1 => ?_⟩
  · replace g := g.1 c1
    refine Go.mv (pc' := 11) (L' := [some (.int (p0))]) (S' := [.long ((0 : Int64))]) (h1 := hM σ) 1 rfl ?_
    exact Go.rt rfl rfl g.1 g.2
  · replace g := g.2 c1
    refine Go.mv (pc' := 11) (L' := [some (.int (p0))]) (S' := [.long ((Int64.ofNat 18446744073709551615))]) (h1 := hM σ) 2 rfl ?_
    exact Go.rt rfl rfl g.1 g.2
theorem c_X9_allOrNone {d : Nat} {σ : SM} {x : Int32} : Go d 131 0 [some (.int x)] [] (hM σ) (some (.long (if ¬ x = 0 then (Int64.ofNat 18446744073709551615) else 0))) (hM σ) := by
  refine b_X9_allOrNone_0 ⟨fun c => ⟨by rw [if_neg (fun z => z c)], rfl⟩, fun c => ⟨by rw [if_pos c], rfl⟩⟩
theorem c_X9_allOrNone_b {d : Nat} {σ : SM} {P : Prop} [Decidable P] : Go d 131 0 [some (.int (if P then (1 : Int32) else 0))] [] (hM σ) (some (.long (if P then (Int64.ofNat 18446744073709551615) else 0))) (hM σ) := by
  refine b_X9_allOrNone_0 ⟨fun c => ⟨by rw [if_neg (ab_bf c)], rfl⟩, fun c => ⟨by rw [if_pos (ab_bt c)], rfl⟩⟩
set_option maxRecDepth 100000 in
theorem b_X9_isSmall_0 {d : Nat} {v : Option Value} {h' : aH} {σ : SM} {p0 : Int32}
    (g : (some (.int (if ((0 : Int32) ≤ p0 ∧ p0 ≤ (4127 : Int32)) then (1 : Int32) else 0)) : Option Value) = v ∧ hM σ = h') :
    Go (d + 1) 156 0 [some (.int (p0))] [] (hM σ) v h' := by
  refine Go.mv (pc' := 6) (L' := [some (.int (p0))]) (S' := [.long ((Int64.ofNat 4127)), .long ((0 : Int64)), .long ((p0).toInt64)]) (h1 := hM σ) 4 rfl ?_
  refine Go.ca (rv := some (.int (if ((0 : Int32) ≤ p0 ∧ p0 ≤ (4127 : Int32)) then (1 : Int32) else 0))) (h1 := hM σ) (pc' := 9) (L' := [some (.int (p0))]) (S' := []) (j := 102) (As := [.long ((p0).toInt64), .long ((0 : Int64)), .long ((Int64.ofNat 4127))]) rfl rfl rfl rfl (c_X9_in (x := p0) (lo := (0 : Int32)) (hi := (4127 : Int32))) ?_
  exact Go.rb rfl rfl g.1 g.2
theorem c_X9_isSmall {d : Nat} {σ : SM} {x : Int32} : Go (d + 1) 156 0 [some (.int x)] [] (hM σ) (some (.int (if (0 : Int32) ≤ x ∧ x ≤ (4127 : Int32) then (1 : Int32) else 0))) (hM σ) := b_X9_isSmall_0 ⟨rfl, rfl⟩
set_option maxRecDepth 100000 in
theorem b_X9_isPhrase_0 {d : Nat} {v : Option Value} {h' : aH} {σ : SM} {p0 : Int32}
    (g : (some (.int (if ((0 : Int32) ≤ p0 ∧ p0 ≤ (((gM_st σ) 0) - (1 : Int32))) then (1 : Int32) else 0)) : Option Value) = v ∧ hM σ = h') :
    Go (d + 1) 140 0 [some (.ref 0), some (.int (p0))] [] (hM σ) v h' := by
  refine Go.mv (pc' := 12) (L' := [some (.ref 0), some (.int (p0))]) (S' := [.long (((((gM_st σ) 0) - (1 : Int32))).toInt64), .long ((0 : Int64)), .long ((p0).toInt64)]) (h1 := hM σ) 10 rfl ?_
  refine Go.ca (rv := some (.int (if ((0 : Int32) ≤ p0 ∧ p0 ≤ (((gM_st σ) 0) - (1 : Int32))) then (1 : Int32) else 0))) (h1 := hM σ) (pc' := 15) (L' := [some (.ref 0), some (.int (p0))]) (S' := []) (j := 102) (As := [.long ((p0).toInt64), .long ((0 : Int64)), .long (((((gM_st σ) 0) - (1 : Int32))).toInt64)]) rfl rfl rfl rfl (c_X9_in (x := p0) (lo := (0 : Int32)) (hi := (((gM_st σ) 0) - (1 : Int32)))) ?_
  exact Go.rb rfl rfl g.1 g.2
theorem c_X9_isPhrase {d : Nat} {σ : SM} {x : Int32} : Go (d + 1) 140 0 [some (.ref 0), some (.int x)] [] (hM σ) (some (.int (if (0 : Int32) ≤ x ∧ x ≤ (gM_st σ 0) - 1 then (1 : Int32) else 0))) (hM σ) := b_X9_isPhrase_0 ⟨rfl, rfl⟩
set_option maxRecDepth 100000 in
theorem b_X9_isThing_0 {d : Nat} {v : Option Value} {h' : aH} {σ : SM} {p0 : Int32}
    (g : (some (.int (if ((0 : Int32) ≤ p0 ∧ p0 ≤ (((gM_st σ) 23) - (1 : Int32))) then (1 : Int32) else 0)) : Option Value) = v ∧ hM σ = h') :
    Go (d + 1) 167 0 [some (.ref 0), some (.int (p0))] [] (hM σ) v h' := by
  refine Go.mv (pc' := 13) (L' := [some (.ref 0), some (.int (p0))]) (S' := [.long (((((gM_st σ) 23) - (1 : Int32))).toInt64), .long ((0 : Int64)), .long ((p0).toInt64)]) (h1 := hM σ) 10 rfl ?_
  refine Go.ca (rv := some (.int (if ((0 : Int32) ≤ p0 ∧ p0 ≤ (((gM_st σ) 23) - (1 : Int32))) then (1 : Int32) else 0))) (h1 := hM σ) (pc' := 16) (L' := [some (.ref 0), some (.int (p0))]) (S' := []) (j := 102) (As := [.long ((p0).toInt64), .long ((0 : Int64)), .long (((((gM_st σ) 23) - (1 : Int32))).toInt64)]) rfl rfl rfl rfl (c_X9_in (x := p0) (lo := (0 : Int32)) (hi := (((gM_st σ) 23) - (1 : Int32)))) ?_
  exact Go.rb rfl rfl g.1 g.2
theorem c_X9_isThing {d : Nat} {σ : SM} {x : Int32} : Go (d + 1) 167 0 [some (.ref 0), some (.int x)] [] (hM σ) (some (.int (if (0 : Int32) ≤ x ∧ x ≤ (gM_st σ 23) - 1 then (1 : Int32) else 0))) (hM σ) := b_X9_isThing_0 ⟨rfl, rfl⟩
set_option maxRecDepth 100000 in
theorem b_X9_isSheet_0 {d : Nat} {v : Option Value} {h' : aH} {σ : SM} {p0 : Int32} {p1 : Int32}
    (g : (¬ ((0 : Int32) ≤ p0 ∧ p0 ≤ (3 : Int32)) → (some (.int ((0 : Int32))) : Option Value) = v ∧ hM σ = h') ∧ (((0 : Int32) ≤ p0 ∧ p0 ≤ (3 : Int32)) → (¬ ((0 : Int32) ≤ p1 ∧ p1 ≤ (2 : Int32)) → (some (.int ((0 : Int32))) : Option Value) = v ∧ hM σ = h') ∧ (((0 : Int32) ≤ p1 ∧ p1 ≤ (2 : Int32)) → (some (.int ((1 : Int32))) : Option Value) = v ∧ hM σ = h'))) :
    Go (d + 1) 173 0 [some (.int (p0)), some (.int (p1))] [] (hM σ) v h' := by
  refine Go.mv (pc' := 6) (L' := [some (.int (p0)), some (.int (p1))]) (S' := [.long ((Int64.ofNat 3)), .long ((0 : Int64)), .long ((p0).toInt64)]) (h1 := hM σ) 4 rfl ?_
  refine Go.ca (rv := some (.int (if ((0 : Int32) ≤ p0 ∧ p0 ≤ (3 : Int32)) then (1 : Int32) else 0))) (h1 := hM σ) (pc' := 9) (L' := [some (.int (p0)), some (.int (p1))]) (S' := []) (j := 102) (As := [.long ((p0).toInt64), .long ((0 : Int64)), .long ((Int64.ofNat 3))]) rfl rfl rfl rfl (c_X9_in (x := p0) (lo := (0 : Int32)) (hi := (3 : Int32))) ?_
  refine Go.zeq rfl ⟨fun c1 => ?_, fun c1 => ?_⟩
  · replace g := g.1 (ab_bf c1)
    refine Go.mv (pc' := 29) (L' := [some (.int (p0)), some (.int (p1))]) (S' := [.int ((0 : Int32))]) (h1 := hM σ) 1 rfl ?_
    exact Go.rt rfl rfl g.1 g.2
  · replace g := g.2 (ab_bt c1)
    refine Go.mv (pc' := 18) (L' := [some (.int (p0)), some (.int (p1))]) (S' := [.long ((Int64.ofNat 2)), .long ((0 : Int64)), .long ((p1).toInt64)]) (h1 := hM σ) 4 rfl ?_
    refine Go.ca (rv := some (.int (if ((0 : Int32) ≤ p1 ∧ p1 ≤ (2 : Int32)) then (1 : Int32) else 0))) (h1 := hM σ) (pc' := 21) (L' := [some (.int (p0)), some (.int (p1))]) (S' := []) (j := 102) (As := [.long ((p1).toInt64), .long ((0 : Int64)), .long ((Int64.ofNat 2))]) rfl rfl rfl rfl (c_X9_in (x := p1) (lo := (0 : Int32)) (hi := (2 : Int32))) ?_
    refine Go.zeq rfl ⟨fun c2 => ?_, fun c2 => ?_⟩
    · replace g := g.1 (ab_bf c2)
      refine Go.mv (pc' := 29) (L' := [some (.int (p0)), some (.int (p1))]) (S' := [.int ((0 : Int32))]) (h1 := hM σ) 1 rfl ?_
      exact Go.rt rfl rfl g.1 g.2
    · replace g := g.2 (ab_bt c2)
      refine Go.mv (pc' := 29) (L' := [some (.int (p0)), some (.int (p1))]) (S' := [.int ((1 : Int32))]) (h1 := hM σ) 2 rfl ?_
      exact Go.rt rfl rfl g.1 g.2
theorem c_X9_isSheet {d : Nat} {σ : SM} {x y : Int32} : Go (d + 1) 173 0 [some (.int x), some (.int y)] [] (hM σ) (some (.int (if ((0 : Int32) ≤ x ∧ x ≤ (3 : Int32)) ∧ (0 : Int32) ≤ y ∧ y ≤ (2 : Int32) then (1 : Int32) else 0))) (hM σ) := by
  refine b_X9_isSheet_0 ⟨fun c => ⟨by rw [if_neg (fun z => c z.1)], rfl⟩, fun c => ⟨fun e => ⟨by rw [if_neg (fun z => e z.2)], rfl⟩, fun e => ⟨by rw [if_pos ⟨c, e⟩], rfl⟩⟩⟩
set_option maxRecDepth 100000 in
theorem b_X8_isPhrase_0 {d : Nat} {v : Option Value} {h' : aH} {σ : SX} {p0 : Int32}
    (g : (p0 < 0 → (some (.int ((0 : Int32))) : Option Value) = v ∧ hX σ = h') ∧ (¬ p0 < 0 → ((gX_sn σ) ≤ p0 → (some (.int ((0 : Int32))) : Option Value) = v ∧ hX σ = h') ∧ (¬ (gX_sn σ) ≤ p0 → (some (.int ((1 : Int32))) : Option Value) = v ∧ hX σ = h'))) :
    Go (d) 86 0 [some (.ref 0), some (.int (p0))] [] (hX σ) v h' := by
  refine Go.mv (pc' := 1) (L' := [some (.ref 0), some (.int (p0))]) (S' := [.int (p0)]) (h1 := hX σ) 1 rfl ?_
  refine Go.zlt rfl ⟨fun c1 => ?_, fun c1 => ?_⟩
  · replace g := g.1 c1
    refine Go.mv (pc' := 20) (L' := [some (.ref 0), some (.int (p0))]) (S' := [.int ((0 : Int32))]) (h1 := hX σ) 1 rfl ?_
    exact Go.rt rfl rfl g.1 g.2
  · replace g := g.2 c1
    refine Go.mv (pc' := 12) (L' := [some (.ref 0), some (.int (p0))]) (S' := [.int ((gX_sn σ)), .int (p0)]) (h1 := hX σ) 4 rfl ?_
    refine Go.cge rfl ⟨fun c2 => ?_, fun c2 => ?_⟩
    · replace g := g.1 c2
      refine Go.mv (pc' := 20) (L' := [some (.ref 0), some (.int (p0))]) (S' := [.int ((0 : Int32))]) (h1 := hX σ) 1 rfl ?_
      exact Go.rt rfl rfl g.1 g.2
    · replace g := g.2 c2
      refine Go.mv (pc' := 20) (L' := [some (.ref 0), some (.int (p0))]) (S' := [.int ((1 : Int32))]) (h1 := hX σ) 2 rfl ?_
      exact Go.rt rfl rfl g.1 g.2
theorem c_X8_isPhrase {d : Nat} {σ : SX} {x : Int32} : Go d 86 0 [some (.ref 0), some (.int x)] [] (hX σ) (some (.int (if (0 : Int32) ≤ x ∧ x < (gX_sn σ) then (1 : Int32) else 0))) (hX σ) := by
  refine b_X8_isPhrase_0 ⟨fun c => ⟨by rw [if_neg (fun z => absurd z.1 (Int32.not_le.mpr c))], rfl⟩, fun c => ⟨fun e => ⟨by rw [if_neg (fun z => absurd z.2 (Int32.not_lt.mpr e))], rfl⟩, fun e => ⟨by rw [if_pos ⟨Int32.not_lt.mp c, Int32.not_le.mp e⟩], rfl⟩⟩⟩
set_option maxRecDepth 100000 in
theorem b_X8_isReading_0 {d : Nat} {v : Option Value} {h' : aH} {σ : SX} {p0 : Int32}
    (g : (p0 < 0 → (some (.int ((0 : Int32))) : Option Value) = v ∧ hX σ = h') ∧ (¬ p0 < 0 → ((gX_rN σ) ≤ p0 → (some (.int ((0 : Int32))) : Option Value) = v ∧ hX σ = h') ∧ (¬ (gX_rN σ) ≤ p0 → (some (.int ((1 : Int32))) : Option Value) = v ∧ hX σ = h'))) :
    Go (d) 87 0 [some (.ref 0), some (.int (p0))] [] (hX σ) v h' := by
  refine Go.mv (pc' := 1) (L' := [some (.ref 0), some (.int (p0))]) (S' := [.int (p0)]) (h1 := hX σ) 1 rfl ?_
  refine Go.zlt rfl ⟨fun c1 => ?_, fun c1 => ?_⟩
  · replace g := g.1 c1
    refine Go.mv (pc' := 20) (L' := [some (.ref 0), some (.int (p0))]) (S' := [.int ((0 : Int32))]) (h1 := hX σ) 1 rfl ?_
    exact Go.rt rfl rfl g.1 g.2
  · replace g := g.2 c1
    refine Go.mv (pc' := 12) (L' := [some (.ref 0), some (.int (p0))]) (S' := [.int ((gX_rN σ)), .int (p0)]) (h1 := hX σ) 4 rfl ?_
    refine Go.cge rfl ⟨fun c2 => ?_, fun c2 => ?_⟩
    · replace g := g.1 c2
      refine Go.mv (pc' := 20) (L' := [some (.ref 0), some (.int (p0))]) (S' := [.int ((0 : Int32))]) (h1 := hX σ) 1 rfl ?_
      exact Go.rt rfl rfl g.1 g.2
    · replace g := g.2 c2
      refine Go.mv (pc' := 20) (L' := [some (.ref 0), some (.int (p0))]) (S' := [.int ((1 : Int32))]) (h1 := hX σ) 2 rfl ?_
      exact Go.rt rfl rfl g.1 g.2
theorem c_X8_isReading {d : Nat} {σ : SX} {x : Int32} : Go d 87 0 [some (.ref 0), some (.int x)] [] (hX σ) (some (.int (if (0 : Int32) ≤ x ∧ x < (gX_rN σ) then (1 : Int32) else 0))) (hX σ) := by
  refine b_X8_isReading_0 ⟨fun c => ⟨by rw [if_neg (fun z => absurd z.1 (Int32.not_le.mpr c))], rfl⟩, fun c => ⟨fun e => ⟨by rw [if_neg (fun z => absurd z.2 (Int32.not_lt.mpr e))], rfl⟩, fun e => ⟨by rw [if_pos ⟨Int32.not_lt.mp c, Int32.not_le.mp e⟩], rfl⟩⟩⟩
set_option maxRecDepth 100000 in
theorem b_X8_isThing_0 {d : Nat} {v : Option Value} {h' : aH} {σ : SX} {p0 : Int32}
    (g : (p0 < 0 → (some (.int ((0 : Int32))) : Option Value) = v ∧ hX σ = h') ∧ (¬ p0 < 0 → ((gX_wN σ) ≤ p0 → (some (.int ((0 : Int32))) : Option Value) = v ∧ hX σ = h') ∧ (¬ (gX_wN σ) ≤ p0 → (some (.int ((1 : Int32))) : Option Value) = v ∧ hX σ = h'))) :
    Go (d) 88 0 [some (.ref 0), some (.int (p0))] [] (hX σ) v h' := by
  refine Go.mv (pc' := 1) (L' := [some (.ref 0), some (.int (p0))]) (S' := [.int (p0)]) (h1 := hX σ) 1 rfl ?_
  refine Go.zlt rfl ⟨fun c1 => ?_, fun c1 => ?_⟩
  · replace g := g.1 c1
    refine Go.mv (pc' := 20) (L' := [some (.ref 0), some (.int (p0))]) (S' := [.int ((0 : Int32))]) (h1 := hX σ) 1 rfl ?_
    exact Go.rt rfl rfl g.1 g.2
  · replace g := g.2 c1
    refine Go.mv (pc' := 12) (L' := [some (.ref 0), some (.int (p0))]) (S' := [.int ((gX_wN σ)), .int (p0)]) (h1 := hX σ) 4 rfl ?_
    refine Go.cge rfl ⟨fun c2 => ?_, fun c2 => ?_⟩
    · replace g := g.1 c2
      refine Go.mv (pc' := 20) (L' := [some (.ref 0), some (.int (p0))]) (S' := [.int ((0 : Int32))]) (h1 := hX σ) 1 rfl ?_
      exact Go.rt rfl rfl g.1 g.2
    · replace g := g.2 c2
      refine Go.mv (pc' := 20) (L' := [some (.ref 0), some (.int (p0))]) (S' := [.int ((1 : Int32))]) (h1 := hX σ) 2 rfl ?_
      exact Go.rt rfl rfl g.1 g.2
theorem c_X8_isThing {d : Nat} {σ : SX} {x : Int32} : Go d 88 0 [some (.ref 0), some (.int x)] [] (hX σ) (some (.int (if (0 : Int32) ≤ x ∧ x < (gX_wN σ) then (1 : Int32) else 0))) (hX σ) := by
  refine b_X8_isThing_0 ⟨fun c => ⟨by rw [if_neg (fun z => absurd z.1 (Int32.not_le.mpr c))], rfl⟩, fun c => ⟨fun e => ⟨by rw [if_neg (fun z => absurd z.2 (Int32.not_lt.mpr e))], rfl⟩, fun e => ⟨by rw [if_pos ⟨Int32.not_lt.mp c, Int32.not_le.mp e⟩], rfl⟩⟩⟩
set_option maxRecDepth 100000 in
theorem b_X8_isSmallWorld_0 {d : Nat} {v : Option Value} {h' : aH} {σ : SX} {p0 : Int32}
    (g : (p0 < 0 → (some (.int ((0 : Int32))) : Option Value) = v ∧ hX σ = h') ∧ (¬ p0 < 0 → ((4128 : Int32) ≤ p0 → (some (.int ((0 : Int32))) : Option Value) = v ∧ hX σ = h') ∧ (¬ (4128 : Int32) ≤ p0 → (some (.int ((1 : Int32))) : Option Value) = v ∧ hX σ = h'))) :
    Go (d) 89 0 [some (.int (p0))] [] (hX σ) v h' := by
  refine Go.mv (pc' := 1) (L' := [some (.int (p0))]) (S' := [.int (p0)]) (h1 := hX σ) 1 rfl ?_
  refine Go.zlt rfl ⟨fun c1 => ?_, fun c1 => ?_⟩
  · replace g := g.1 c1
    refine Go.mv (pc' := 16) (L' := [some (.int (p0))]) (S' := [.int ((0 : Int32))]) (h1 := hX σ) 1 rfl ?_
    exact Go.rt rfl rfl g.1 g.2
  · replace g := g.2 c1
    refine Go.mv (pc' := 8) (L' := [some (.int (p0))]) (S' := [.int ((4128 : Int32)), .int (p0)]) (h1 := hX σ) 2 rfl ?_
    refine Go.cge rfl ⟨fun c2 => ?_, fun c2 => ?_⟩
    · replace g := g.1 c2
      refine Go.mv (pc' := 16) (L' := [some (.int (p0))]) (S' := [.int ((0 : Int32))]) (h1 := hX σ) 1 rfl ?_
      exact Go.rt rfl rfl g.1 g.2
    · replace g := g.2 c2
      refine Go.mv (pc' := 16) (L' := [some (.int (p0))]) (S' := [.int ((1 : Int32))]) (h1 := hX σ) 2 rfl ?_
      exact Go.rt rfl rfl g.1 g.2
theorem c_X8_isSmallWorld {d : Nat} {σ : SX} {x : Int32} : Go d 89 0 [some (.int x)] [] (hX σ) (some (.int (if (0 : Int32) ≤ x ∧ x < (4128 : Int32) then (1 : Int32) else 0))) (hX σ) := by
  refine b_X8_isSmallWorld_0 ⟨fun c => ⟨by rw [if_neg (fun z => absurd z.1 (Int32.not_le.mpr c))], rfl⟩, fun c => ⟨fun e => ⟨by rw [if_neg (fun z => absurd z.2 (Int32.not_lt.mpr e))], rfl⟩, fun e => ⟨by rw [if_pos ⟨Int32.not_lt.mp c, Int32.not_le.mp e⟩], rfl⟩⟩⟩
set_option maxRecDepth 100000 in
theorem b_X8_isSheet_0 {d : Nat} {v : Option Value} {h' : aH} {σ : SX} {p0 : Int32}
    (g : (p0 < 0 → (some (.int ((0 : Int32))) : Option Value) = v ∧ hX σ = h') ∧ (¬ p0 < 0 → ((4 : Int32) ≤ p0 → (some (.int ((0 : Int32))) : Option Value) = v ∧ hX σ = h') ∧ (¬ (4 : Int32) ≤ p0 → (some (.int ((1 : Int32))) : Option Value) = v ∧ hX σ = h'))) :
    Go (d) 90 0 [some (.int (p0))] [] (hX σ) v h' := by
  refine Go.mv (pc' := 1) (L' := [some (.int (p0))]) (S' := [.int (p0)]) (h1 := hX σ) 1 rfl ?_
  refine Go.zlt rfl ⟨fun c1 => ?_, fun c1 => ?_⟩
  · replace g := g.1 c1
    refine Go.mv (pc' := 14) (L' := [some (.int (p0))]) (S' := [.int ((0 : Int32))]) (h1 := hX σ) 1 rfl ?_
    exact Go.rt rfl rfl g.1 g.2
  · replace g := g.2 c1
    refine Go.mv (pc' := 6) (L' := [some (.int (p0))]) (S' := [.int ((4 : Int32)), .int (p0)]) (h1 := hX σ) 2 rfl ?_
    refine Go.cge rfl ⟨fun c2 => ?_, fun c2 => ?_⟩
    · replace g := g.1 c2
      refine Go.mv (pc' := 14) (L' := [some (.int (p0))]) (S' := [.int ((0 : Int32))]) (h1 := hX σ) 1 rfl ?_
      exact Go.rt rfl rfl g.1 g.2
    · replace g := g.2 c2
      refine Go.mv (pc' := 14) (L' := [some (.int (p0))]) (S' := [.int ((1 : Int32))]) (h1 := hX σ) 2 rfl ?_
      exact Go.rt rfl rfl g.1 g.2
theorem c_X8_isSheet {d : Nat} {σ : SX} {x : Int32} : Go d 90 0 [some (.int x)] [] (hX σ) (some (.int (if (0 : Int32) ≤ x ∧ x < (4 : Int32) then (1 : Int32) else 0))) (hX σ) := by
  refine b_X8_isSheet_0 ⟨fun c => ⟨by rw [if_neg (fun z => absurd z.1 (Int32.not_le.mpr c))], rfl⟩, fun c => ⟨fun e => ⟨by rw [if_neg (fun z => absurd z.2 (Int32.not_lt.mpr e))], rfl⟩, fun e => ⟨by rw [if_pos ⟨Int32.not_lt.mp c, Int32.not_le.mp e⟩], rfl⟩⟩⟩
set_option maxRecDepth 100000 in
theorem b_X8_isLane_0 {d : Nat} {v : Option Value} {h' : aH} {σ : SX} {p0 : Int32}
    (g : (p0 < 0 → (some (.int ((0 : Int32))) : Option Value) = v ∧ hX σ = h') ∧ (¬ p0 < 0 → ((3 : Int32) ≤ p0 → (some (.int ((0 : Int32))) : Option Value) = v ∧ hX σ = h') ∧ (¬ (3 : Int32) ≤ p0 → (some (.int ((1 : Int32))) : Option Value) = v ∧ hX σ = h'))) :
    Go (d) 91 0 [some (.int (p0))] [] (hX σ) v h' := by
  refine Go.mv (pc' := 1) (L' := [some (.int (p0))]) (S' := [.int (p0)]) (h1 := hX σ) 1 rfl ?_
  refine Go.zlt rfl ⟨fun c1 => ?_, fun c1 => ?_⟩
  · replace g := g.1 c1
    refine Go.mv (pc' := 14) (L' := [some (.int (p0))]) (S' := [.int ((0 : Int32))]) (h1 := hX σ) 1 rfl ?_
    exact Go.rt rfl rfl g.1 g.2
  · replace g := g.2 c1
    refine Go.mv (pc' := 6) (L' := [some (.int (p0))]) (S' := [.int ((3 : Int32)), .int (p0)]) (h1 := hX σ) 2 rfl ?_
    refine Go.cge rfl ⟨fun c2 => ?_, fun c2 => ?_⟩
    · replace g := g.1 c2
      refine Go.mv (pc' := 14) (L' := [some (.int (p0))]) (S' := [.int ((0 : Int32))]) (h1 := hX σ) 1 rfl ?_
      exact Go.rt rfl rfl g.1 g.2
    · replace g := g.2 c2
      refine Go.mv (pc' := 14) (L' := [some (.int (p0))]) (S' := [.int ((1 : Int32))]) (h1 := hX σ) 2 rfl ?_
      exact Go.rt rfl rfl g.1 g.2
theorem c_X8_isLane {d : Nat} {σ : SX} {x : Int32} : Go d 91 0 [some (.int x)] [] (hX σ) (some (.int (if (0 : Int32) ≤ x ∧ x < (3 : Int32) then (1 : Int32) else 0))) (hX σ) := by
  refine b_X8_isLane_0 ⟨fun c => ⟨by rw [if_neg (fun z => absurd z.1 (Int32.not_le.mpr c))], rfl⟩, fun c => ⟨fun e => ⟨by rw [if_neg (fun z => absurd z.2 (Int32.not_lt.mpr e))], rfl⟩, fun e => ⟨by rw [if_pos ⟨Int32.not_lt.mp c, Int32.not_le.mp e⟩], rfl⟩⟩⟩
set_option maxRecDepth 100000 in
theorem b_X2_isOneOf_0 {d : Nat} {v : Option Value} {h' : aH} {σ : SX} {p0 : Int32} {p1 : Int32}
    (g : ((gX_pT σ) < p0 → (some (.int ((0 : Int32))) : Option Value) = v ∧ hX σ = h') ∧ (¬ (gX_pT σ) < p0 → ((p0 + p1) ≤ (gX_pT σ) → (some (.int ((0 : Int32))) : Option Value) = v ∧ hX σ = h') ∧ (¬ (p0 + p1) ≤ (gX_pT σ) → (some (.int ((1 : Int32))) : Option Value) = v ∧ hX σ = h'))) :
    Go (d) 17 0 [some (.ref 3), some (.int (p0)), some (.int (p1))] [] (hX σ) v h' := by
  refine Go.mv (pc' := 5) (L' := [some (.ref 3), some (.int (p0)), some (.int (p1))]) (S' := [.int (p0), .int ((gX_pT σ))]) (h1 := hX σ) 3 rfl ?_
  refine Go.clt rfl ⟨fun c1 => ?_, fun c1 => ?_⟩
  · replace g := g.1 c1
    refine Go.mv (pc' := 23) (L' := [some (.ref 3), some (.int (p0)), some (.int (p1))]) (S' := [.int ((0 : Int32))]) (h1 := hX σ) 1 rfl ?_
    exact Go.rt rfl rfl g.1 g.2
  · replace g := g.2 c1
    refine Go.mv (pc' := 15) (L' := [some (.ref 3), some (.int (p0)), some (.int (p1))]) (S' := [.int ((p0 + p1)), .int ((gX_pT σ))]) (h1 := hX σ) 5 rfl ?_
    refine Go.cge rfl ⟨fun c2 => ?_, fun c2 => ?_⟩
    · replace g := g.1 c2
      refine Go.mv (pc' := 23) (L' := [some (.ref 3), some (.int (p0)), some (.int (p1))]) (S' := [.int ((0 : Int32))]) (h1 := hX σ) 1 rfl ?_
      exact Go.rt rfl rfl g.1 g.2
    · replace g := g.2 c2
      refine Go.mv (pc' := 23) (L' := [some (.ref 3), some (.int (p0)), some (.int (p1))]) (S' := [.int ((1 : Int32))]) (h1 := hX σ) 2 rfl ?_
      exact Go.rt rfl rfl g.1 g.2
theorem c_X2_isOneOf {d : Nat} {σ : SX} {x y : Int32} : Go d 17 0 [some (.ref 3), some (.int x), some (.int y)] [] (hX σ) (some (.int (if x ≤ gX_pT σ ∧ gX_pT σ < x + y then (1 : Int32) else 0))) (hX σ) := by
  refine b_X2_isOneOf_0 ⟨fun c => ⟨by rw [if_neg (fun z => absurd z.1 (Int32.not_le.mpr c))], rfl⟩, fun c => ⟨fun e => ⟨by rw [if_neg (fun z => absurd z.2 (Int32.not_lt.mpr e))], rfl⟩, fun e => ⟨by rw [if_pos ⟨Int32.not_lt.mp c, Int32.not_le.mp e⟩], rfl⟩⟩⟩
