/-! blocks of the reference -/
set_option maxRecDepth 100000 in
theorem b_X9_noHosts_st_0 {d : Nat} {v : Option Value} {h' : aH} {σ : SM} 
    (g : Go (d) 104 2 [some (.ref 1), some (.int ((0 : Int32)))] [] (hM σ) v h') :
    Go (d) 104 0 [some (.ref 1), none] [] (hM σ) v h' := by
  refine Go.mv (pc' := 2) (L' := [some (.ref 1), some (.int ((0 : Int32)))]) (S' := []) (h1 := hM σ) 2 rfl ?_
  exact g
set_option maxRecDepth 100000 in
theorem b_X9_noHosts_st_2 {d : Nat} {v : Option Value} {h' : aH} {σ : SM} {x1 : Int32}
    (g : ((4 : Int32) ≤ x1 → none = v ∧ hM σ = h') ∧ (¬ (4 : Int32) ≤ x1 → ∃ k2 : Nat, (((3 : Int32) + ((5 : Int32) * x1)) + (2 : Int32)) = nI k2 ∧ k2 < 64 ∧ (∃ k3 : Nat, (((3 : Int32) + ((5 : Int32) * x1)) + (3 : Int32)) = nI k3 ∧ k3 < 64 ∧ (∃ k4 : Nat, (((3 : Int32) + ((5 : Int32) * x1)) + (4 : Int32)) = nI k4 ∧ k4 < 64 ∧ (Go (d) 104 2 [some (.ref 1), some (.int ((x1 + (1 : Int32))))] [] (hM (uM_st σ (upd (upd (upd (gM_st σ) k2 (-4 : Int32)) k3 (-4 : Int32)) k4 (-4 : Int32)))) v h'))))) :
    Go (d) 104 2 [some (.ref 1), some (.int (x1))] [] (hM σ) v h' := by
  refine Go.mv (pc' := 4) (L' := [some (.ref 1), some (.int (x1))]) (S' := [.int ((4 : Int32)), .int (x1)]) (h1 := hM σ) 2 rfl ?_
  refine Go.cge rfl ⟨fun c1 => ?_, fun c1 => ?_⟩
  · replace g := g.1 c1
    exact Go.rt rfl rfl g.1 g.2
  · replace g := g.2 c1
    refine Go.mv (pc' := 17) (L' := [some (.ref 1), some (.int (x1))]) (S' := [.int ((-4 : Int32)), .int ((((3 : Int32) + ((5 : Int32) * x1)) + (2 : Int32))), .ref 1]) (h1 := hM σ) 9 rfl ?_
    obtain ⟨k2, ek2, lk2, g⟩ := g
    refine Go.iast rfl rfl (by decide) ⟨k2, ek2, lk2, ?_⟩
    refine Go.mv (pc' := 28) (L' := [some (.ref 1), some (.int (x1))]) (S' := [.int ((-4 : Int32)), .int ((((3 : Int32) + ((5 : Int32) * x1)) + (3 : Int32))), .ref 1]) (h1 := hM (uM_st σ (upd (gM_st σ) k2 (-4 : Int32)))) 9 rfl ?_
    obtain ⟨k3, ek3, lk3, g⟩ := g
    refine Go.iast rfl rfl (by decide) ⟨k3, ek3, lk3, ?_⟩
    refine Go.mv (pc' := 39) (L' := [some (.ref 1), some (.int (x1))]) (S' := [.int ((-4 : Int32)), .int ((((3 : Int32) + ((5 : Int32) * x1)) + (4 : Int32))), .ref 1]) (h1 := hM (uM_st σ (upd (upd (gM_st σ) k2 (-4 : Int32)) k3 (-4 : Int32)))) 9 rfl ?_
    obtain ⟨k4, ek4, lk4, g⟩ := g
    refine Go.iast rfl rfl (by decide) ⟨k4, ek4, lk4, ?_⟩
    refine Go.mv (pc' := 2) (L' := [some (.ref 1), some (.int ((x1 + (1 : Int32))))]) (S' := []) (h1 := hM (uM_st σ (upd (upd (upd (gM_st σ) k2 (-4 : Int32)) k3 (-4 : Int32)) k4 (-4 : Int32)))) 2 rfl ?_
    exact g
set_option maxRecDepth 100000 in
theorem b_X9_noHosts_dr_0 {d : Nat} {v : Option Value} {h' : aH} {σ : SM} 
    (g : Go (d) 104 2 [some (.ref 2), some (.int ((0 : Int32)))] [] (hM σ) v h') :
    Go (d) 104 0 [some (.ref 2), none] [] (hM σ) v h' := by
  refine Go.mv (pc' := 2) (L' := [some (.ref 2), some (.int ((0 : Int32)))]) (S' := []) (h1 := hM σ) 2 rfl ?_
  exact g
set_option maxRecDepth 100000 in
theorem b_X9_noHosts_dr_2 {d : Nat} {v : Option Value} {h' : aH} {σ : SM} {x1 : Int32}
    (g : ((4 : Int32) ≤ x1 → none = v ∧ hM σ = h') ∧ (¬ (4 : Int32) ≤ x1 → ∃ k2 : Nat, (((3 : Int32) + ((5 : Int32) * x1)) + (2 : Int32)) = nI k2 ∧ k2 < 64 ∧ (∃ k3 : Nat, (((3 : Int32) + ((5 : Int32) * x1)) + (3 : Int32)) = nI k3 ∧ k3 < 64 ∧ (∃ k4 : Nat, (((3 : Int32) + ((5 : Int32) * x1)) + (4 : Int32)) = nI k4 ∧ k4 < 64 ∧ (Go (d) 104 2 [some (.ref 2), some (.int ((x1 + (1 : Int32))))] [] (hM (uM_draft σ (upd (upd (upd (gM_draft σ) k2 (-4 : Int32)) k3 (-4 : Int32)) k4 (-4 : Int32)))) v h'))))) :
    Go (d) 104 2 [some (.ref 2), some (.int (x1))] [] (hM σ) v h' := by
  refine Go.mv (pc' := 4) (L' := [some (.ref 2), some (.int (x1))]) (S' := [.int ((4 : Int32)), .int (x1)]) (h1 := hM σ) 2 rfl ?_
  refine Go.cge rfl ⟨fun c1 => ?_, fun c1 => ?_⟩
  · replace g := g.1 c1
    exact Go.rt rfl rfl g.1 g.2
  · replace g := g.2 c1
    refine Go.mv (pc' := 17) (L' := [some (.ref 2), some (.int (x1))]) (S' := [.int ((-4 : Int32)), .int ((((3 : Int32) + ((5 : Int32) * x1)) + (2 : Int32))), .ref 2]) (h1 := hM σ) 9 rfl ?_
    obtain ⟨k2, ek2, lk2, g⟩ := g
    refine Go.iast rfl rfl (by decide) ⟨k2, ek2, lk2, ?_⟩
    refine Go.mv (pc' := 28) (L' := [some (.ref 2), some (.int (x1))]) (S' := [.int ((-4 : Int32)), .int ((((3 : Int32) + ((5 : Int32) * x1)) + (3 : Int32))), .ref 2]) (h1 := hM (uM_draft σ (upd (gM_draft σ) k2 (-4 : Int32)))) 9 rfl ?_
    obtain ⟨k3, ek3, lk3, g⟩ := g
    refine Go.iast rfl rfl (by decide) ⟨k3, ek3, lk3, ?_⟩
    refine Go.mv (pc' := 39) (L' := [some (.ref 2), some (.int (x1))]) (S' := [.int ((-4 : Int32)), .int ((((3 : Int32) + ((5 : Int32) * x1)) + (4 : Int32))), .ref 2]) (h1 := hM (uM_draft σ (upd (upd (gM_draft σ) k2 (-4 : Int32)) k3 (-4 : Int32)))) 9 rfl ?_
    obtain ⟨k4, ek4, lk4, g⟩ := g
    refine Go.iast rfl rfl (by decide) ⟨k4, ek4, lk4, ?_⟩
    refine Go.mv (pc' := 2) (L' := [some (.ref 2), some (.int ((x1 + (1 : Int32))))]) (S' := []) (h1 := hM (uM_draft σ (upd (upd (upd (gM_draft σ) k2 (-4 : Int32)) k3 (-4 : Int32)) k4 (-4 : Int32)))) 2 rfl ?_
    exact g
set_option maxRecDepth 100000 in
theorem b_X9_feed_0 {d : Nat} {v : Option Value} {h' : aH} {σ : SM} {p0 : Int32}
    (g : (((0 : Int32) ≤ p0 ∧ p0 ≤ (127 : Int32)) → (¬ (gM_taped σ) = (200 : Int32) → ∃ k3 : Nat, (gM_taped σ) = nI k3 ∧ k3 < 200 ∧ ((some (.int (((gM_taped σ) + (1 : Int32)))) : Option Value) = v ∧ hM (uM_taped (uM_tape σ (upd (gM_tape σ) k3 p0)) ((gM_taped σ) + (1 : Int32))) = h')) ∧ ((gM_taped σ) = (200 : Int32) → (some (.int ((-3 : Int32))) : Option Value) = v ∧ hM σ = h')) ∧ (¬ ((0 : Int32) ≤ p0 ∧ p0 ≤ (127 : Int32)) → (some (.int ((-1 : Int32))) : Option Value) = v ∧ hM σ = h')) :
    Go (d + 1) 105 0 [some (.ref 0), some (.int (p0))] [] (hM σ) v h' := by
  refine Go.mv (pc' := 6) (L' := [some (.ref 0), some (.int (p0))]) (S' := [.long ((Int64.ofNat 127)), .long ((0 : Int64)), .long ((p0).toInt64)]) (h1 := hM σ) 4 rfl ?_
  refine Go.ca (rv := some (.int (if ((0 : Int32) ≤ p0 ∧ p0 ≤ (127 : Int32)) then (1 : Int32) else 0))) (h1 := hM σ) (pc' := 9) (L' := [some (.ref 0), some (.int (p0))]) (S' := []) (j := 102) (As := [.long ((p0).toInt64), .long ((0 : Int64)), .long ((Int64.ofNat 127))]) rfl rfl rfl rfl (c_X9_in (x := p0) (lo := (0 : Int32)) (hi := (127 : Int32))) ?_
  refine Go.zne rfl ⟨fun c1 => ?_, fun c1 => ?_⟩
  · replace g := g.1 (ab_bt c1)
    refine Go.mv (pc' := 21) (L' := [some (.ref 0), some (.int (p0))]) (S' := [.int ((200 : Int32)), .int ((gM_taped σ))]) (h1 := hM σ) 3 rfl ?_
    refine Go.cne rfl ⟨fun c2 => ?_, fun c2 => ?_⟩
    · replace g := g.1 c2
      refine Go.mv (pc' := 36) (L' := [some (.ref 0), some (.int (p0))]) (S' := [.int (p0), .int ((gM_taped σ)), .ref 5]) (h1 := hM σ) 5 rfl ?_
      obtain ⟨k3, ek3, lk3, g⟩ := g
      refine Go.iast rfl rfl (by decide) ⟨k3, ek3, lk3, ?_⟩
      refine Go.mv (pc' := 51) (L' := [some (.ref 0), some (.int (p0))]) (S' := [.int (((gM_taped σ) + (1 : Int32)))]) (h1 := hM (uM_taped (uM_tape σ (upd (gM_tape σ) k3 p0)) ((gM_taped σ) + (1 : Int32)))) 8 rfl ?_
      exact Go.rt rfl rfl g.1 g.2
    · replace g := g.2 c2
      refine Go.mv (pc' := 26) (L' := [some (.ref 0), some (.int (p0))]) (S' := [.int ((-3 : Int32))]) (h1 := hM σ) 1 rfl ?_
      exact Go.rt rfl rfl g.1 g.2
  · replace g := g.2 (ab_bf c1)
    refine Go.mv (pc' := 13) (L' := [some (.ref 0), some (.int (p0))]) (S' := [.int ((-1 : Int32))]) (h1 := hM σ) 1 rfl ?_
    exact Go.rt rfl rfl g.1 g.2
set_option maxRecDepth 100000 in
theorem b_X9_end_0 {d : Nat} {v : Option Value} {h' : aH} {σ : SM} {p0 : Int32}
    (g : (((0 : Int32) ≤ p0 ∧ p0 ≤ (gM_taped σ)) → (some (.int ((gM_taped σ))) : Option Value) = v ∧ hM (uM_taped σ p0) = h') ∧ (¬ ((0 : Int32) ≤ p0 ∧ p0 ≤ (gM_taped σ)) → (some (.int ((-1 : Int32))) : Option Value) = v ∧ hM σ = h')) :
    Go (d + 1) 106 0 [some (.ref 0), some (.int (p0)), none] [] (hM σ) v h' := by
  refine Go.mv (pc' := 8) (L' := [some (.ref 0), some (.int (p0)), none]) (S' := [.long (((gM_taped σ)).toInt64), .long ((0 : Int64)), .long ((p0).toInt64)]) (h1 := hM σ) 6 rfl ?_
  refine Go.ca (rv := some (.int (if ((0 : Int32) ≤ p0 ∧ p0 ≤ (gM_taped σ)) then (1 : Int32) else 0))) (h1 := hM σ) (pc' := 11) (L' := [some (.ref 0), some (.int (p0)), none]) (S' := []) (j := 102) (As := [.long ((p0).toInt64), .long ((0 : Int64)), .long (((gM_taped σ)).toInt64)]) rfl rfl rfl rfl (c_X9_in (x := p0) (lo := (0 : Int32)) (hi := (gM_taped σ))) ?_
  refine Go.zne rfl ⟨fun c1 => ?_, fun c1 => ?_⟩
  · replace g := g.1 (ab_bt c1)
    refine Go.mv (pc' := 27) (L' := [some (.ref 0), some (.int (p0)), some (.int ((gM_taped σ)))]) (S' := [.int ((gM_taped σ))]) (h1 := hM (uM_taped σ p0)) 7 rfl ?_
    exact Go.rt rfl rfl g.1 g.2
  · replace g := g.2 (ab_bf c1)
    refine Go.mv (pc' := 15) (L' := [some (.ref 0), some (.int (p0)), none]) (S' := [.int ((-1 : Int32))]) (h1 := hM σ) 1 rfl ?_
    exact Go.rt rfl rfl g.1 g.2
set_option maxRecDepth 100000 in
theorem b_X9_requires_0 {d : Nat} {v : Option Value} {h' : aH} {σ : SM} {p0 : Int32} {p1 : Int32}
    (g : (¬ p0 = 0 → none = v ∧ hM σ = h') ∧ (p0 = 0 → (¬ (gM_fault σ) = 0 → none = v ∧ hM σ = h') ∧ ((gM_fault σ) = 0 → none = v ∧ hM (uM_wrongAt (uM_fault σ p1) (gM_begun σ)) = h'))) :
    Go (d) 107 0 [some (.ref 0), some (.int (p0)), some (.int (p1))] [] (hM σ) v h' := by
  refine Go.mv (pc' := 1) (L' := [some (.ref 0), some (.int (p0)), some (.int (p1))]) (S' := [.int (p0)]) (h1 := hM σ) 1 rfl ?_
  refine Go.zne rfl ⟨fun c1 => ?_, fun c1 => ?_⟩
  · replace g := g.1 c1
    exact Go.rt rfl rfl g.1 g.2
  · replace g := g.2 c1
    refine Go.mv (pc' := 8) (L' := [some (.ref 0), some (.int (p0)), some (.int (p1))]) (S' := [.int ((gM_fault σ))]) (h1 := hM σ) 2 rfl ?_
    refine Go.zne rfl ⟨fun c2 => ?_, fun c2 => ?_⟩
    · replace g := g.1 c2
      exact Go.rt rfl rfl g.1 g.2
    · replace g := g.2 c2
      refine Go.mv (pc' := 24) (L' := [some (.ref 0), some (.int (p0)), some (.int (p1))]) (S' := []) (h1 := hM (uM_wrongAt (uM_fault σ p1) (gM_begun σ))) 7 rfl ?_
      exact Go.rt rfl rfl g.1 g.2
set_option maxRecDepth 100000 in
theorem b_X9_byteAt_0 {d : Nat} {v : Option Value} {h' : aH} {σ : SM} {p0 : Int32}
    (g : ((gM_taped σ) ≤ p0 → (some (.int ((-1 : Int32))) : Option Value) = v ∧ hM σ = h') ∧ (¬ (gM_taped σ) ≤ p0 → ∃ k2 : Nat, p0 = nI k2 ∧ k2 < 200 ∧ ((some (.int (((gM_tape σ) k2))) : Option Value) = v ∧ hM σ = h'))) :
    Go (d) 108 0 [some (.ref 0), some (.int (p0))] [] (hM σ) v h' := by
  refine Go.mv (pc' := 5) (L' := [some (.ref 0), some (.int (p0))]) (S' := [.int ((gM_taped σ)), .int (p0)]) (h1 := hM σ) 3 rfl ?_
  refine Go.cge rfl ⟨fun c1 => ?_, fun c1 => ?_⟩
  · replace g := g.1 c1
    refine Go.mv (pc' := 18) (L' := [some (.ref 0), some (.int (p0))]) (S' := [.int ((-1 : Int32))]) (h1 := hM σ) 1 rfl ?_
    exact Go.rt rfl rfl g.1 g.2
  · replace g := g.2 c1
    refine Go.mv (pc' := 13) (L' := [some (.ref 0), some (.int (p0))]) (S' := [.int (p0), .ref 5]) (h1 := hM σ) 3 rfl ?_
    obtain ⟨k2, ek2, lk2, g⟩ := g
    refine Go.iald rfl rfl (by decide) ⟨k2, ek2, lk2, ?_⟩
    refine Go.mv (pc' := 18) (L' := [some (.ref 0), some (.int (p0))]) (S' := [.int (((gM_tape σ) k2))]) (h1 := hM σ) 1 rfl ?_
    exact Go.rt rfl rfl g.1 g.2
set_option maxRecDepth 100000 in
theorem b_X9_is_0 {d : Nat} {v : Option Value} {h' : aH} {σ : SM} {p0 : Int32} {p1 : Int32} {p2 : Int32} {p3 : Int32}
    (g : (¬ (gM_sort σ) = (1 : Int32) → (some (.int ((0 : Int32))) : Option Value) = v ∧ hM σ = h') ∧ ((gM_sort σ) = (1 : Int32) → (¬ ((gM_pos σ) - (gM_begun σ)) = p0 → (some (.int ((0 : Int32))) : Option Value) = v ∧ hM σ = h') ∧ (((gM_pos σ) - (gM_begun σ)) = p0 → ∃ (r3 : Int32), Go d 108 0 [some (.ref 0), some (.int (((gM_begun σ) + p1)))] [] (hM σ) (some (.int r3)) (hM σ) ∧ ((¬ r3 = p2 → (some (.int ((0 : Int32))) : Option Value) = v ∧ hM σ = h') ∧ (r3 = p2 → ∃ (r5 : Int32), Go d 108 0 [some (.ref 0), some (.int ((((gM_begun σ) + p1) + (1 : Int32))))] [] (hM σ) (some (.int r5)) (hM σ) ∧ ((some (.int (if (r5 = p3) then (1 : Int32) else 0)) : Option Value) = v ∧ hM σ = h')))))) :
    Go (d + 1) 109 0 [some (.ref 0), some (.int (p0)), some (.int (p1)), some (.int (p2)), some (.int (p3))] [] (hM σ) v h' := by
  refine Go.mv (pc' := 5) (L' := [some (.ref 0), some (.int (p0)), some (.int (p1)), some (.int (p2)), some (.int (p3))]) (S' := [.int ((1 : Int32)), .int ((gM_sort σ))]) (h1 := hM σ) 3 rfl ?_
  refine Go.cne rfl ⟨fun c1 => ?_, fun c1 => ?_⟩
  · replace g := g.1 c1
    refine Go.mv (pc' := 57) (L' := [some (.ref 0), some (.int (p0)), some (.int (p1)), some (.int (p2)), some (.int (p3))]) (S' := [.int ((0 : Int32))]) (h1 := hM σ) 1 rfl ?_
    exact Go.rt rfl rfl g.1 g.2
  · replace g := g.2 c1
    refine Go.mv (pc' := 18) (L' := [some (.ref 0), some (.int (p0)), some (.int (p1)), some (.int (p2)), some (.int (p3))]) (S' := [.int (p0), .int (((gM_pos σ) - (gM_begun σ)))]) (h1 := hM σ) 6 rfl ?_
    refine Go.cne rfl ⟨fun c2 => ?_, fun c2 => ?_⟩
    · replace g := g.1 c2
      refine Go.mv (pc' := 57) (L' := [some (.ref 0), some (.int (p0)), some (.int (p1)), some (.int (p2)), some (.int (p3))]) (S' := [.int ((0 : Int32))]) (h1 := hM σ) 1 rfl ?_
      exact Go.rt rfl rfl g.1 g.2
    · replace g := g.2 c2
      refine Go.mv (pc' := 28) (L' := [some (.ref 0), some (.int (p0)), some (.int (p1)), some (.int (p2)), some (.int (p3))]) (S' := [.int (((gM_begun σ) + p1)), .ref 0]) (h1 := hM σ) 5 rfl ?_
      obtain ⟨r3, gc, g⟩ := g
      refine Go.ca (rv := some (.int r3)) (h1 := hM σ) (pc' := 31) (L' := [some (.ref 0), some (.int (p0)), some (.int (p1)), some (.int (p2)), some (.int (p3))]) (S' := []) (j := 108) (As := [.ref 0, .int (((gM_begun σ) + p1))]) rfl rfl rfl rfl gc ?_
      refine Go.mv (pc' := 32) (L' := [some (.ref 0), some (.int (p0)), some (.int (p1)), some (.int (p2)), some (.int (p3))]) (S' := [.int (p2), .int (r3)]) (h1 := hM σ) 1 rfl ?_
      refine Go.cne rfl ⟨fun c4 => ?_, fun c4 => ?_⟩
      · replace g := g.1 c4
        refine Go.mv (pc' := 57) (L' := [some (.ref 0), some (.int (p0)), some (.int (p1)), some (.int (p2)), some (.int (p3))]) (S' := [.int ((0 : Int32))]) (h1 := hM σ) 1 rfl ?_
        exact Go.rt rfl rfl g.1 g.2
      · replace g := g.2 c4
        refine Go.mv (pc' := 44) (L' := [some (.ref 0), some (.int (p0)), some (.int (p1)), some (.int (p2)), some (.int (p3))]) (S' := [.int ((((gM_begun σ) + p1) + (1 : Int32))), .ref 0]) (h1 := hM σ) 7 rfl ?_
        obtain ⟨r5, gc, g⟩ := g
        refine Go.ca (rv := some (.int r5)) (h1 := hM σ) (pc' := 47) (L' := [some (.ref 0), some (.int (p0)), some (.int (p1)), some (.int (p2)), some (.int (p3))]) (S' := []) (j := 108) (As := [.ref 0, .int ((((gM_begun σ) + p1) + (1 : Int32)))]) rfl rfl rfl rfl gc ?_
        refine Go.mv (pc' := 49) (L' := [some (.ref 0), some (.int (p0)), some (.int (p1)), some (.int (p2)), some (.int (p3))]) (S' := [.int (p3), .int (r5)]) (h1 := hM σ) 1 rfl ?_
        suffices gb : Go (d + 1) 109 57 [some (.ref 0), some (.int (p0)), some (.int (p1)), some (.int (p2)), some (.int (p3))] [.int (if (r5 = p3) then (1 : Int32) else 0)] (hM σ) v h' by
          refine Go.cne rfl ⟨fun c6 => ?_, fun c6 => ?_⟩
          · rw [if_neg c6] at gb
            refine Go.mv (pc' := 57) (L' := [some (.ref 0), some (.int (p0)), some (.int (p1)), some (.int (p2)), some (.int (p3))]) (S' := [.int ((0 : Int32))]) (h1 := hM σ) 1 rfl ?_
            exact gb
          · rw [if_pos c6] at gb
            refine Go.mv (pc' := 57) (L' := [some (.ref 0), some (.int (p0)), some (.int (p1)), some (.int (p2)), some (.int (p3))]) (S' := [.int ((1 : Int32))]) (h1 := hM σ) 2 rfl ?_
            exact gb
        exact Go.rb rfl rfl g.1 g.2
set_option maxRecDepth 100000 in
theorem b_X9_quantifierNow_0 {d : Nat} {v : Option Value} {h' : aH} {σ : SM} 
    (g : ∃ (r1 : Int32), Go d 109 0 [some (.ref 0), some (.int ((5 : Int32))), some (.int ((0 : Int32))), some (.int ((101 : Int32))), some (.int ((118 : Int32)))] [] (hM σ) (some (.int r1)) (hM σ) ∧ ((r1 = 0 → Go (d + 1) 110 41 [some (.ref 0)] [] (hM σ) v h') ∧ (¬ r1 = 0 → ∃ (r3 : Int32), Go d 109 0 [some (.ref 0), some (.int ((5 : Int32))), some (.int ((2 : Int32))), some (.int ((101 : Int32))), some (.int ((114 : Int32)))] [] (hM σ) (some (.int r3)) (hM σ) ∧ ((r3 = 0 → Go (d + 1) 110 41 [some (.ref 0)] [] (hM σ) v h') ∧ (¬ r3 = 0 → ∃ (r5 : Int32), Go d 109 0 [some (.ref 0), some (.int ((5 : Int32))), some (.int ((3 : Int32))), some (.int ((114 : Int32))), some (.int ((121 : Int32)))] [] (hM σ) (some (.int r5)) (hM σ) ∧ ((r5 = 0 → Go (d + 1) 110 41 [some (.ref 0)] [] (hM σ) v h') ∧ (¬ r5 = 0 → (some (.int ((0 : Int32))) : Option Value) = v ∧ hM σ = h'))))))) :
    Go (d + 1) 110 0 [some (.ref 0)] [] (hM σ) v h' := by
  refine Go.mv (pc' := 7) (L' := [some (.ref 0)]) (S' := [.int ((118 : Int32)), .int ((101 : Int32)), .int ((0 : Int32)), .int ((5 : Int32)), .ref 0]) (h1 := hM σ) 5 rfl ?_
  obtain ⟨r1, gc, g⟩ := g
  refine Go.ca (rv := some (.int r1)) (h1 := hM σ) (pc' := 10) (L' := [some (.ref 0)]) (S' := []) (j := 109) (As := [.ref 0, .int ((5 : Int32)), .int ((0 : Int32)), .int ((101 : Int32)), .int ((118 : Int32))]) rfl rfl rfl rfl gc ?_
  refine Go.zeq rfl ⟨fun c2 => ?_, fun c2 => ?_⟩
  · replace g := g.1 c2
    exact g
  · replace g := g.2 c2
    refine Go.mv (pc' := 20) (L' := [some (.ref 0)]) (S' := [.int ((114 : Int32)), .int ((101 : Int32)), .int ((2 : Int32)), .int ((5 : Int32)), .ref 0]) (h1 := hM σ) 5 rfl ?_
    obtain ⟨r3, gc, g⟩ := g
    refine Go.ca (rv := some (.int r3)) (h1 := hM σ) (pc' := 23) (L' := [some (.ref 0)]) (S' := []) (j := 109) (As := [.ref 0, .int ((5 : Int32)), .int ((2 : Int32)), .int ((101 : Int32)), .int ((114 : Int32))]) rfl rfl rfl rfl gc ?_
    refine Go.zeq rfl ⟨fun c4 => ?_, fun c4 => ?_⟩
    · replace g := g.1 c4
      exact g
    · replace g := g.2 c4
      refine Go.mv (pc' := 33) (L' := [some (.ref 0)]) (S' := [.int ((121 : Int32)), .int ((114 : Int32)), .int ((3 : Int32)), .int ((5 : Int32)), .ref 0]) (h1 := hM σ) 5 rfl ?_
      obtain ⟨r5, gc, g⟩ := g
      refine Go.ca (rv := some (.int r5)) (h1 := hM σ) (pc' := 36) (L' := [some (.ref 0)]) (S' := []) (j := 109) (As := [.ref 0, .int ((5 : Int32)), .int ((3 : Int32)), .int ((114 : Int32)), .int ((121 : Int32))]) rfl rfl rfl rfl gc ?_
      refine Go.zeq rfl ⟨fun c6 => ?_, fun c6 => ?_⟩
      · replace g := g.1 c6
        exact g
      · replace g := g.2 c6
        refine Go.mv (pc' := 40) (L' := [some (.ref 0)]) (S' := [.int ((0 : Int32))]) (h1 := hM σ) 1 rfl ?_
        exact Go.rt rfl rfl g.1 g.2
set_option maxRecDepth 100000 in
theorem b_X9_quantifierNow_41 {d : Nat} {v : Option Value} {h' : aH} {σ : SM} 
    (g : ∃ (r1 : Int32), Go d 109 0 [some (.ref 0), some (.int ((4 : Int32))), some (.int ((0 : Int32))), some (.int ((115 : Int32))), some (.int ((111 : Int32)))] [] (hM σ) (some (.int r1)) (hM σ) ∧ ((r1 = 0 → Go (d + 1) 110 69 [some (.ref 0)] [] (hM σ) v h') ∧ (¬ r1 = 0 → ∃ (r3 : Int32), Go d 109 0 [some (.ref 0), some (.int ((4 : Int32))), some (.int ((2 : Int32))), some (.int ((109 : Int32))), some (.int ((101 : Int32)))] [] (hM σ) (some (.int r3)) (hM σ) ∧ ((r3 = 0 → Go (d + 1) 110 69 [some (.ref 0)] [] (hM σ) v h') ∧ (¬ r3 = 0 → (some (.int ((1 : Int32))) : Option Value) = v ∧ hM σ = h'))))) :
    Go (d + 1) 110 41 [some (.ref 0)] [] (hM σ) v h' := by
  refine Go.mv (pc' := 48) (L' := [some (.ref 0)]) (S' := [.int ((111 : Int32)), .int ((115 : Int32)), .int ((0 : Int32)), .int ((4 : Int32)), .ref 0]) (h1 := hM σ) 5 rfl ?_
  obtain ⟨r1, gc, g⟩ := g
  refine Go.ca (rv := some (.int r1)) (h1 := hM σ) (pc' := 51) (L' := [some (.ref 0)]) (S' := []) (j := 109) (As := [.ref 0, .int ((4 : Int32)), .int ((0 : Int32)), .int ((115 : Int32)), .int ((111 : Int32))]) rfl rfl rfl rfl gc ?_
  refine Go.zeq rfl ⟨fun c2 => ?_, fun c2 => ?_⟩
  · replace g := g.1 c2
    exact g
  · replace g := g.2 c2
    refine Go.mv (pc' := 61) (L' := [some (.ref 0)]) (S' := [.int ((101 : Int32)), .int ((109 : Int32)), .int ((2 : Int32)), .int ((4 : Int32)), .ref 0]) (h1 := hM σ) 5 rfl ?_
    obtain ⟨r3, gc, g⟩ := g
    refine Go.ca (rv := some (.int r3)) (h1 := hM σ) (pc' := 64) (L' := [some (.ref 0)]) (S' := []) (j := 109) (As := [.ref 0, .int ((4 : Int32)), .int ((2 : Int32)), .int ((109 : Int32)), .int ((101 : Int32))]) rfl rfl rfl rfl gc ?_
    refine Go.zeq rfl ⟨fun c4 => ?_, fun c4 => ?_⟩
    · replace g := g.1 c4
      exact g
    · replace g := g.2 c4
      refine Go.mv (pc' := 68) (L' := [some (.ref 0)]) (S' := [.int ((1 : Int32))]) (h1 := hM σ) 1 rfl ?_
      exact Go.rt rfl rfl g.1 g.2
set_option maxRecDepth 100000 in
theorem b_X9_quantifierNow_69 {d : Nat} {v : Option Value} {h' : aH} {σ : SM} 
    (g : ∃ (r1 : Int32), Go d 109 0 [some (.ref 0), some (.int ((2 : Int32))), some (.int ((0 : Int32))), some (.int ((110 : Int32))), some (.int ((111 : Int32)))] [] (hM σ) (some (.int r1)) (hM σ) ∧ ((r1 = 0 → ∃ (r3 : Int32), Go d 109 0 [some (.ref 0), some (.int ((3 : Int32))), some (.int ((0 : Int32))), some (.int ((111 : Int32))), some (.int ((110 : Int32)))] [] (hM σ) (some (.int r3)) (hM σ) ∧ ((r3 = 0 → (some (.int ((-4 : Int32))) : Option Value) = v ∧ hM σ = h') ∧ (¬ r3 = 0 → ∃ (r5 : Int32), Go d 109 0 [some (.ref 0), some (.int ((3 : Int32))), some (.int ((1 : Int32))), some (.int ((110 : Int32))), some (.int ((101 : Int32)))] [] (hM σ) (some (.int r5)) (hM σ) ∧ ((r5 = 0 → (some (.int ((-4 : Int32))) : Option Value) = v ∧ hM σ = h') ∧ (¬ r5 = 0 → (some (.int ((3 : Int32))) : Option Value) = v ∧ hM σ = h'))))) ∧ (¬ r1 = 0 → (some (.int ((2 : Int32))) : Option Value) = v ∧ hM σ = h'))) :
    Go (d + 1) 110 69 [some (.ref 0)] [] (hM σ) v h' := by
  refine Go.mv (pc' := 76) (L' := [some (.ref 0)]) (S' := [.int ((111 : Int32)), .int ((110 : Int32)), .int ((0 : Int32)), .int ((2 : Int32)), .ref 0]) (h1 := hM σ) 5 rfl ?_
  obtain ⟨r1, gc, g⟩ := g
  refine Go.ca (rv := some (.int r1)) (h1 := hM σ) (pc' := 79) (L' := [some (.ref 0)]) (S' := []) (j := 109) (As := [.ref 0, .int ((2 : Int32)), .int ((0 : Int32)), .int ((110 : Int32)), .int ((111 : Int32))]) rfl rfl rfl rfl gc ?_
  refine Go.zeq rfl ⟨fun c2 => ?_, fun c2 => ?_⟩
  · replace g := g.1 c2
    refine Go.mv (pc' := 91) (L' := [some (.ref 0)]) (S' := [.int ((110 : Int32)), .int ((111 : Int32)), .int ((0 : Int32)), .int ((3 : Int32)), .ref 0]) (h1 := hM σ) 5 rfl ?_
    obtain ⟨r3, gc, g⟩ := g
    refine Go.ca (rv := some (.int r3)) (h1 := hM σ) (pc' := 94) (L' := [some (.ref 0)]) (S' := []) (j := 109) (As := [.ref 0, .int ((3 : Int32)), .int ((0 : Int32)), .int ((111 : Int32)), .int ((110 : Int32))]) rfl rfl rfl rfl gc ?_
    refine Go.zeq rfl ⟨fun c4 => ?_, fun c4 => ?_⟩
    · replace g := g.1 c4
      refine Go.mv (pc' := 116) (L' := [some (.ref 0)]) (S' := [.int ((-4 : Int32))]) (h1 := hM σ) 1 rfl ?_
      exact Go.rt rfl rfl g.1 g.2
    · replace g := g.2 c4
      refine Go.mv (pc' := 104) (L' := [some (.ref 0)]) (S' := [.int ((101 : Int32)), .int ((110 : Int32)), .int ((1 : Int32)), .int ((3 : Int32)), .ref 0]) (h1 := hM σ) 5 rfl ?_
      obtain ⟨r5, gc, g⟩ := g
      refine Go.ca (rv := some (.int r5)) (h1 := hM σ) (pc' := 107) (L' := [some (.ref 0)]) (S' := []) (j := 109) (As := [.ref 0, .int ((3 : Int32)), .int ((1 : Int32)), .int ((110 : Int32)), .int ((101 : Int32))]) rfl rfl rfl rfl gc ?_
      refine Go.zeq rfl ⟨fun c6 => ?_, fun c6 => ?_⟩
      · replace g := g.1 c6
        refine Go.mv (pc' := 116) (L' := [some (.ref 0)]) (S' := [.int ((-4 : Int32))]) (h1 := hM σ) 1 rfl ?_
        exact Go.rt rfl rfl g.1 g.2
      · replace g := g.2 c6
        refine Go.mv (pc' := 116) (L' := [some (.ref 0)]) (S' := [.int ((3 : Int32))]) (h1 := hM σ) 2 rfl ?_
        exact Go.rt rfl rfl g.1 g.2
  · replace g := g.2 c2
    refine Go.mv (pc' := 83) (L' := [some (.ref 0)]) (S' := [.int ((2 : Int32))]) (h1 := hM σ) 1 rfl ?_
    exact Go.rt rfl rfl g.1 g.2
set_option maxRecDepth 100000 in
theorem b_X9_nounNow_0 {d : Nat} {v : Option Value} {h' : aH} {σ : SM} 
    (g : ∃ (r1 : Int32), Go d 109 0 [some (.ref 0), some (.int ((3 : Int32))), some (.int ((0 : Int32))), some (.int ((109 : Int32))), some (.int ((97 : Int32)))] [] (hM σ) (some (.int r1)) (hM σ) ∧ ((r1 = 0 → ∃ (r3 : Int32), Go d 109 0 [some (.ref 0), some (.int ((3 : Int32))), some (.int ((0 : Int32))), some (.int ((100 : Int32))), some (.int ((111 : Int32)))] [] (hM σ) (some (.int r3)) (hM σ) ∧ ((r3 = 0 → (some (.int ((-4 : Int32))) : Option Value) = v ∧ hM σ = h') ∧ (¬ r3 = 0 → ∃ (r5 : Int32), Go d 109 0 [some (.ref 0), some (.int ((3 : Int32))), some (.int ((1 : Int32))), some (.int ((111 : Int32))), some (.int ((103 : Int32)))] [] (hM σ) (some (.int r5)) (hM σ) ∧ ((r5 = 0 → (some (.int ((-4 : Int32))) : Option Value) = v ∧ hM σ = h') ∧ (¬ r5 = 0 → (some (.int ((1 : Int32))) : Option Value) = v ∧ hM σ = h'))))) ∧ (¬ r1 = 0 → ∃ (r7 : Int32), Go d 109 0 [some (.ref 0), some (.int ((3 : Int32))), some (.int ((1 : Int32))), some (.int ((97 : Int32))), some (.int ((110 : Int32)))] [] (hM σ) (some (.int r7)) (hM σ) ∧ ((r7 = 0 → ∃ (r9 : Int32), Go d 109 0 [some (.ref 0), some (.int ((3 : Int32))), some (.int ((0 : Int32))), some (.int ((100 : Int32))), some (.int ((111 : Int32)))] [] (hM σ) (some (.int r9)) (hM σ) ∧ ((r9 = 0 → (some (.int ((-4 : Int32))) : Option Value) = v ∧ hM σ = h') ∧ (¬ r9 = 0 → ∃ (r11 : Int32), Go d 109 0 [some (.ref 0), some (.int ((3 : Int32))), some (.int ((1 : Int32))), some (.int ((111 : Int32))), some (.int ((103 : Int32)))] [] (hM σ) (some (.int r11)) (hM σ) ∧ ((r11 = 0 → (some (.int ((-4 : Int32))) : Option Value) = v ∧ hM σ = h') ∧ (¬ r11 = 0 → (some (.int ((1 : Int32))) : Option Value) = v ∧ hM σ = h'))))) ∧ (¬ r7 = 0 → (some (.int ((0 : Int32))) : Option Value) = v ∧ hM σ = h'))))) :
    Go (d + 1) 111 0 [some (.ref 0)] [] (hM σ) v h' := by
  refine Go.mv (pc' := 7) (L' := [some (.ref 0)]) (S' := [.int ((97 : Int32)), .int ((109 : Int32)), .int ((0 : Int32)), .int ((3 : Int32)), .ref 0]) (h1 := hM σ) 5 rfl ?_
  obtain ⟨r1, gc, g⟩ := g
  refine Go.ca (rv := some (.int r1)) (h1 := hM σ) (pc' := 10) (L' := [some (.ref 0)]) (S' := []) (j := 109) (As := [.ref 0, .int ((3 : Int32)), .int ((0 : Int32)), .int ((109 : Int32)), .int ((97 : Int32))]) rfl rfl rfl rfl gc ?_
  refine Go.zeq rfl ⟨fun c2 => ?_, fun c2 => ?_⟩
  · replace g := g.1 c2
    refine Go.mv (pc' := 35) (L' := [some (.ref 0)]) (S' := [.int ((111 : Int32)), .int ((100 : Int32)), .int ((0 : Int32)), .int ((3 : Int32)), .ref 0]) (h1 := hM σ) 5 rfl ?_
    obtain ⟨r3, gc, g⟩ := g
    refine Go.ca (rv := some (.int r3)) (h1 := hM σ) (pc' := 38) (L' := [some (.ref 0)]) (S' := []) (j := 109) (As := [.ref 0, .int ((3 : Int32)), .int ((0 : Int32)), .int ((100 : Int32)), .int ((111 : Int32))]) rfl rfl rfl rfl gc ?_
    refine Go.zeq rfl ⟨fun c4 => ?_, fun c4 => ?_⟩
    · replace g := g.1 c4
      refine Go.mv (pc' := 60) (L' := [some (.ref 0)]) (S' := [.int ((-4 : Int32))]) (h1 := hM σ) 1 rfl ?_
      exact Go.rt rfl rfl g.1 g.2
    · replace g := g.2 c4
      refine Go.mv (pc' := 48) (L' := [some (.ref 0)]) (S' := [.int ((103 : Int32)), .int ((111 : Int32)), .int ((1 : Int32)), .int ((3 : Int32)), .ref 0]) (h1 := hM σ) 5 rfl ?_
      obtain ⟨r5, gc, g⟩ := g
      refine Go.ca (rv := some (.int r5)) (h1 := hM σ) (pc' := 51) (L' := [some (.ref 0)]) (S' := []) (j := 109) (As := [.ref 0, .int ((3 : Int32)), .int ((1 : Int32)), .int ((111 : Int32)), .int ((103 : Int32))]) rfl rfl rfl rfl gc ?_
      refine Go.zeq rfl ⟨fun c6 => ?_, fun c6 => ?_⟩
      · replace g := g.1 c6
        refine Go.mv (pc' := 60) (L' := [some (.ref 0)]) (S' := [.int ((-4 : Int32))]) (h1 := hM σ) 1 rfl ?_
        exact Go.rt rfl rfl g.1 g.2
      · replace g := g.2 c6
        refine Go.mv (pc' := 60) (L' := [some (.ref 0)]) (S' := [.int ((1 : Int32))]) (h1 := hM σ) 2 rfl ?_
        exact Go.rt rfl rfl g.1 g.2
  · replace g := g.2 c2
    refine Go.mv (pc' := 20) (L' := [some (.ref 0)]) (S' := [.int ((110 : Int32)), .int ((97 : Int32)), .int ((1 : Int32)), .int ((3 : Int32)), .ref 0]) (h1 := hM σ) 5 rfl ?_
    obtain ⟨r7, gc, g⟩ := g
    refine Go.ca (rv := some (.int r7)) (h1 := hM σ) (pc' := 23) (L' := [some (.ref 0)]) (S' := []) (j := 109) (As := [.ref 0, .int ((3 : Int32)), .int ((1 : Int32)), .int ((97 : Int32)), .int ((110 : Int32))]) rfl rfl rfl rfl gc ?_
    refine Go.zeq rfl ⟨fun c8 => ?_, fun c8 => ?_⟩
    · replace g := g.1 c8
      refine Go.mv (pc' := 35) (L' := [some (.ref 0)]) (S' := [.int ((111 : Int32)), .int ((100 : Int32)), .int ((0 : Int32)), .int ((3 : Int32)), .ref 0]) (h1 := hM σ) 5 rfl ?_
      obtain ⟨r9, gc, g⟩ := g
      refine Go.ca (rv := some (.int r9)) (h1 := hM σ) (pc' := 38) (L' := [some (.ref 0)]) (S' := []) (j := 109) (As := [.ref 0, .int ((3 : Int32)), .int ((0 : Int32)), .int ((100 : Int32)), .int ((111 : Int32))]) rfl rfl rfl rfl gc ?_
      refine Go.zeq rfl ⟨fun c10 => ?_, fun c10 => ?_⟩
      · replace g := g.1 c10
        refine Go.mv (pc' := 60) (L' := [some (.ref 0)]) (S' := [.int ((-4 : Int32))]) (h1 := hM σ) 1 rfl ?_
        exact Go.rt rfl rfl g.1 g.2
      · replace g := g.2 c10
        refine Go.mv (pc' := 48) (L' := [some (.ref 0)]) (S' := [.int ((103 : Int32)), .int ((111 : Int32)), .int ((1 : Int32)), .int ((3 : Int32)), .ref 0]) (h1 := hM σ) 5 rfl ?_
        obtain ⟨r11, gc, g⟩ := g
        refine Go.ca (rv := some (.int r11)) (h1 := hM σ) (pc' := 51) (L' := [some (.ref 0)]) (S' := []) (j := 109) (As := [.ref 0, .int ((3 : Int32)), .int ((1 : Int32)), .int ((111 : Int32)), .int ((103 : Int32))]) rfl rfl rfl rfl gc ?_
        refine Go.zeq rfl ⟨fun c12 => ?_, fun c12 => ?_⟩
        · replace g := g.1 c12
          refine Go.mv (pc' := 60) (L' := [some (.ref 0)]) (S' := [.int ((-4 : Int32))]) (h1 := hM σ) 1 rfl ?_
          exact Go.rt rfl rfl g.1 g.2
        · replace g := g.2 c12
          refine Go.mv (pc' := 60) (L' := [some (.ref 0)]) (S' := [.int ((1 : Int32))]) (h1 := hM σ) 2 rfl ?_
          exact Go.rt rfl rfl g.1 g.2
    · replace g := g.2 c8
      refine Go.mv (pc' := 27) (L' := [some (.ref 0)]) (S' := [.int ((0 : Int32))]) (h1 := hM σ) 1 rfl ?_
      exact Go.rt rfl rfl g.1 g.2
set_option maxRecDepth 100000 in
theorem b_X9_verbNow_0 {d : Nat} {v : Option Value} {h' : aH} {σ : SM} 
    (g : ∃ (r1 : Int32), Go d 109 0 [some (.ref 0), some (.int ((4 : Int32))), some (.int ((0 : Int32))), some (.int ((115 : Int32))), some (.int ((101 : Int32)))] [] (hM σ) (some (.int r1)) (hM σ) ∧ ((r1 = 0 → ∃ (r3 : Int32), Go d 109 0 [some (.ref 0), some (.int ((5 : Int32))), some (.int ((0 : Int32))), some (.int ((108 : Int32))), some (.int ((105 : Int32)))] [] (hM σ) (some (.int r3)) (hM σ) ∧ ((r3 = 0 → (some (.int ((-4 : Int32))) : Option Value) = v ∧ hM σ = h') ∧ (¬ r3 = 0 → ∃ (r5 : Int32), Go d 109 0 [some (.ref 0), some (.int ((5 : Int32))), some (.int ((2 : Int32))), some (.int ((107 : Int32))), some (.int ((101 : Int32)))] [] (hM σ) (some (.int r5)) (hM σ) ∧ ((r5 = 0 → (some (.int ((-4 : Int32))) : Option Value) = v ∧ hM σ = h') ∧ (¬ r5 = 0 → ∃ (r7 : Int32), Go d 109 0 [some (.ref 0), some (.int ((5 : Int32))), some (.int ((3 : Int32))), some (.int ((101 : Int32))), some (.int ((115 : Int32)))] [] (hM σ) (some (.int r7)) (hM σ) ∧ ((r7 = 0 → (some (.int ((-4 : Int32))) : Option Value) = v ∧ hM σ = h') ∧ (¬ r7 = 0 → (some (.int ((1 : Int32))) : Option Value) = v ∧ hM σ = h'))))))) ∧ (¬ r1 = 0 → ∃ (r9 : Int32), Go d 109 0 [some (.ref 0), some (.int ((4 : Int32))), some (.int ((2 : Int32))), some (.int ((101 : Int32))), some (.int ((115 : Int32)))] [] (hM σ) (some (.int r9)) (hM σ) ∧ ((r9 = 0 → ∃ (r11 : Int32), Go d 109 0 [some (.ref 0), some (.int ((5 : Int32))), some (.int ((0 : Int32))), some (.int ((108 : Int32))), some (.int ((105 : Int32)))] [] (hM σ) (some (.int r11)) (hM σ) ∧ ((r11 = 0 → (some (.int ((-4 : Int32))) : Option Value) = v ∧ hM σ = h') ∧ (¬ r11 = 0 → ∃ (r13 : Int32), Go d 109 0 [some (.ref 0), some (.int ((5 : Int32))), some (.int ((2 : Int32))), some (.int ((107 : Int32))), some (.int ((101 : Int32)))] [] (hM σ) (some (.int r13)) (hM σ) ∧ ((r13 = 0 → (some (.int ((-4 : Int32))) : Option Value) = v ∧ hM σ = h') ∧ (¬ r13 = 0 → ∃ (r15 : Int32), Go d 109 0 [some (.ref 0), some (.int ((5 : Int32))), some (.int ((3 : Int32))), some (.int ((101 : Int32))), some (.int ((115 : Int32)))] [] (hM σ) (some (.int r15)) (hM σ) ∧ ((r15 = 0 → (some (.int ((-4 : Int32))) : Option Value) = v ∧ hM σ = h') ∧ (¬ r15 = 0 → (some (.int ((1 : Int32))) : Option Value) = v ∧ hM σ = h'))))))) ∧ (¬ r9 = 0 → (some (.int ((0 : Int32))) : Option Value) = v ∧ hM σ = h'))))) :
    Go (d + 1) 112 0 [some (.ref 0)] [] (hM σ) v h' := by
  refine Go.mv (pc' := 7) (L' := [some (.ref 0)]) (S' := [.int ((101 : Int32)), .int ((115 : Int32)), .int ((0 : Int32)), .int ((4 : Int32)), .ref 0]) (h1 := hM σ) 5 rfl ?_
  obtain ⟨r1, gc, g⟩ := g
  refine Go.ca (rv := some (.int r1)) (h1 := hM σ) (pc' := 10) (L' := [some (.ref 0)]) (S' := []) (j := 109) (As := [.ref 0, .int ((4 : Int32)), .int ((0 : Int32)), .int ((115 : Int32)), .int ((101 : Int32))]) rfl rfl rfl rfl gc ?_
  refine Go.zeq rfl ⟨fun c2 => ?_, fun c2 => ?_⟩
  · replace g := g.1 c2
    refine Go.mv (pc' := 35) (L' := [some (.ref 0)]) (S' := [.int ((105 : Int32)), .int ((108 : Int32)), .int ((0 : Int32)), .int ((5 : Int32)), .ref 0]) (h1 := hM σ) 5 rfl ?_
    obtain ⟨r3, gc, g⟩ := g
    refine Go.ca (rv := some (.int r3)) (h1 := hM σ) (pc' := 38) (L' := [some (.ref 0)]) (S' := []) (j := 109) (As := [.ref 0, .int ((5 : Int32)), .int ((0 : Int32)), .int ((108 : Int32)), .int ((105 : Int32))]) rfl rfl rfl rfl gc ?_
    refine Go.zeq rfl ⟨fun c4 => ?_, fun c4 => ?_⟩
    · replace g := g.1 c4
      refine Go.mv (pc' := 73) (L' := [some (.ref 0)]) (S' := [.int ((-4 : Int32))]) (h1 := hM σ) 1 rfl ?_
      exact Go.rt rfl rfl g.1 g.2
    · replace g := g.2 c4
      refine Go.mv (pc' := 48) (L' := [some (.ref 0)]) (S' := [.int ((101 : Int32)), .int ((107 : Int32)), .int ((2 : Int32)), .int ((5 : Int32)), .ref 0]) (h1 := hM σ) 5 rfl ?_
      obtain ⟨r5, gc, g⟩ := g
      refine Go.ca (rv := some (.int r5)) (h1 := hM σ) (pc' := 51) (L' := [some (.ref 0)]) (S' := []) (j := 109) (As := [.ref 0, .int ((5 : Int32)), .int ((2 : Int32)), .int ((107 : Int32)), .int ((101 : Int32))]) rfl rfl rfl rfl gc ?_
      refine Go.zeq rfl ⟨fun c6 => ?_, fun c6 => ?_⟩
      · replace g := g.1 c6
        refine Go.mv (pc' := 73) (L' := [some (.ref 0)]) (S' := [.int ((-4 : Int32))]) (h1 := hM σ) 1 rfl ?_
        exact Go.rt rfl rfl g.1 g.2
      · replace g := g.2 c6
        refine Go.mv (pc' := 61) (L' := [some (.ref 0)]) (S' := [.int ((115 : Int32)), .int ((101 : Int32)), .int ((3 : Int32)), .int ((5 : Int32)), .ref 0]) (h1 := hM σ) 5 rfl ?_
        obtain ⟨r7, gc, g⟩ := g
        refine Go.ca (rv := some (.int r7)) (h1 := hM σ) (pc' := 64) (L' := [some (.ref 0)]) (S' := []) (j := 109) (As := [.ref 0, .int ((5 : Int32)), .int ((3 : Int32)), .int ((101 : Int32)), .int ((115 : Int32))]) rfl rfl rfl rfl gc ?_
        refine Go.zeq rfl ⟨fun c8 => ?_, fun c8 => ?_⟩
        · replace g := g.1 c8
          refine Go.mv (pc' := 73) (L' := [some (.ref 0)]) (S' := [.int ((-4 : Int32))]) (h1 := hM σ) 1 rfl ?_
          exact Go.rt rfl rfl g.1 g.2
        · replace g := g.2 c8
          refine Go.mv (pc' := 73) (L' := [some (.ref 0)]) (S' := [.int ((1 : Int32))]) (h1 := hM σ) 2 rfl ?_
          exact Go.rt rfl rfl g.1 g.2
  · replace g := g.2 c2
    refine Go.mv (pc' := 20) (L' := [some (.ref 0)]) (S' := [.int ((115 : Int32)), .int ((101 : Int32)), .int ((2 : Int32)), .int ((4 : Int32)), .ref 0]) (h1 := hM σ) 5 rfl ?_
    obtain ⟨r9, gc, g⟩ := g
    refine Go.ca (rv := some (.int r9)) (h1 := hM σ) (pc' := 23) (L' := [some (.ref 0)]) (S' := []) (j := 109) (As := [.ref 0, .int ((4 : Int32)), .int ((2 : Int32)), .int ((101 : Int32)), .int ((115 : Int32))]) rfl rfl rfl rfl gc ?_
    refine Go.zeq rfl ⟨fun c10 => ?_, fun c10 => ?_⟩
    · replace g := g.1 c10
      refine Go.mv (pc' := 35) (L' := [some (.ref 0)]) (S' := [.int ((105 : Int32)), .int ((108 : Int32)), .int ((0 : Int32)), .int ((5 : Int32)), .ref 0]) (h1 := hM σ) 5 rfl ?_
      obtain ⟨r11, gc, g⟩ := g
      refine Go.ca (rv := some (.int r11)) (h1 := hM σ) (pc' := 38) (L' := [some (.ref 0)]) (S' := []) (j := 109) (As := [.ref 0, .int ((5 : Int32)), .int ((0 : Int32)), .int ((108 : Int32)), .int ((105 : Int32))]) rfl rfl rfl rfl gc ?_
      refine Go.zeq rfl ⟨fun c12 => ?_, fun c12 => ?_⟩
      · replace g := g.1 c12
        refine Go.mv (pc' := 73) (L' := [some (.ref 0)]) (S' := [.int ((-4 : Int32))]) (h1 := hM σ) 1 rfl ?_
        exact Go.rt rfl rfl g.1 g.2
      · replace g := g.2 c12
        refine Go.mv (pc' := 48) (L' := [some (.ref 0)]) (S' := [.int ((101 : Int32)), .int ((107 : Int32)), .int ((2 : Int32)), .int ((5 : Int32)), .ref 0]) (h1 := hM σ) 5 rfl ?_
        obtain ⟨r13, gc, g⟩ := g
        refine Go.ca (rv := some (.int r13)) (h1 := hM σ) (pc' := 51) (L' := [some (.ref 0)]) (S' := []) (j := 109) (As := [.ref 0, .int ((5 : Int32)), .int ((2 : Int32)), .int ((107 : Int32)), .int ((101 : Int32))]) rfl rfl rfl rfl gc ?_
        refine Go.zeq rfl ⟨fun c14 => ?_, fun c14 => ?_⟩
        · replace g := g.1 c14
          refine Go.mv (pc' := 73) (L' := [some (.ref 0)]) (S' := [.int ((-4 : Int32))]) (h1 := hM σ) 1 rfl ?_
          exact Go.rt rfl rfl g.1 g.2
        · replace g := g.2 c14
          refine Go.mv (pc' := 61) (L' := [some (.ref 0)]) (S' := [.int ((115 : Int32)), .int ((101 : Int32)), .int ((3 : Int32)), .int ((5 : Int32)), .ref 0]) (h1 := hM σ) 5 rfl ?_
          obtain ⟨r15, gc, g⟩ := g
          refine Go.ca (rv := some (.int r15)) (h1 := hM σ) (pc' := 64) (L' := [some (.ref 0)]) (S' := []) (j := 109) (As := [.ref 0, .int ((5 : Int32)), .int ((3 : Int32)), .int ((101 : Int32)), .int ((115 : Int32))]) rfl rfl rfl rfl gc ?_
          refine Go.zeq rfl ⟨fun c16 => ?_, fun c16 => ?_⟩
          · replace g := g.1 c16
            refine Go.mv (pc' := 73) (L' := [some (.ref 0)]) (S' := [.int ((-4 : Int32))]) (h1 := hM σ) 1 rfl ?_
            exact Go.rt rfl rfl g.1 g.2
          · replace g := g.2 c16
            refine Go.mv (pc' := 73) (L' := [some (.ref 0)]) (S' := [.int ((1 : Int32))]) (h1 := hM σ) 2 rfl ?_
            exact Go.rt rfl rfl g.1 g.2
    · replace g := g.2 c10
      refine Go.mv (pc' := 27) (L' := [some (.ref 0)]) (S' := [.int ((0 : Int32))]) (h1 := hM σ) 1 rfl ?_
      exact Go.rt rfl rfl g.1 g.2
set_option maxRecDepth 100000 in
theorem b_X9_isThat_0 {d : Nat} {v : Option Value} {h' : aH} {σ : SM} 
    (g : ∃ (r1 : Int32), Go d 109 0 [some (.ref 0), some (.int ((4 : Int32))), some (.int ((0 : Int32))), some (.int ((116 : Int32))), some (.int ((104 : Int32)))] [] (hM σ) (some (.int r1)) (hM σ) ∧ ((r1 = 0 → (some (.int ((0 : Int32))) : Option Value) = v ∧ hM σ = h') ∧ (¬ r1 = 0 → ∃ (r3 : Int32), Go d 109 0 [some (.ref 0), some (.int ((4 : Int32))), some (.int ((2 : Int32))), some (.int ((97 : Int32))), some (.int ((116 : Int32)))] [] (hM σ) (some (.int r3)) (hM σ) ∧ ((some (.int (if (¬ r3 = 0) then (1 : Int32) else 0)) : Option Value) = v ∧ hM σ = h')))) :
    Go (d + 1) 113 0 [some (.ref 0)] [] (hM σ) v h' := by
  refine Go.mv (pc' := 7) (L' := [some (.ref 0)]) (S' := [.int ((104 : Int32)), .int ((116 : Int32)), .int ((0 : Int32)), .int ((4 : Int32)), .ref 0]) (h1 := hM σ) 5 rfl ?_
  obtain ⟨r1, gc, g⟩ := g
  refine Go.ca (rv := some (.int r1)) (h1 := hM σ) (pc' := 10) (L' := [some (.ref 0)]) (S' := []) (j := 109) (As := [.ref 0, .int ((4 : Int32)), .int ((0 : Int32)), .int ((116 : Int32)), .int ((104 : Int32))]) rfl rfl rfl rfl gc ?_
  refine Go.zeq rfl ⟨fun c2 => ?_, fun c2 => ?_⟩
  · replace g := g.1 c2
    refine Go.mv (pc' := 31) (L' := [some (.ref 0)]) (S' := [.int ((0 : Int32))]) (h1 := hM σ) 1 rfl ?_
    exact Go.rt rfl rfl g.1 g.2
  · replace g := g.2 c2
    refine Go.mv (pc' := 20) (L' := [some (.ref 0)]) (S' := [.int ((116 : Int32)), .int ((97 : Int32)), .int ((2 : Int32)), .int ((4 : Int32)), .ref 0]) (h1 := hM σ) 5 rfl ?_
    obtain ⟨r3, gc, g⟩ := g
    refine Go.ca (rv := some (.int r3)) (h1 := hM σ) (pc' := 23) (L' := [some (.ref 0)]) (S' := []) (j := 109) (As := [.ref 0, .int ((4 : Int32)), .int ((2 : Int32)), .int ((97 : Int32)), .int ((116 : Int32))]) rfl rfl rfl rfl gc ?_
    suffices gb : Go (d + 1) 113 31 [some (.ref 0)] [.int (if (¬ r3 = 0) then (1 : Int32) else 0)] (hM σ) v h' by
      refine Go.zeq rfl ⟨fun c4 => ?_, fun c4 => ?_⟩
      · rw [if_neg (fun z => z c4)] at gb
        refine Go.mv (pc' := 31) (L' := [some (.ref 0)]) (S' := [.int ((0 : Int32))]) (h1 := hM σ) 1 rfl ?_
        exact gb
      · rw [if_pos c4] at gb
        refine Go.mv (pc' := 31) (L' := [some (.ref 0)]) (S' := [.int ((1 : Int32))]) (h1 := hM σ) 2 rfl ?_
        exact gb
    exact Go.rb rfl rfl g.1 g.2
set_option maxRecDepth 100000 in
theorem b_X9_reads_0 {d : Nat} {v : Option Value} {h' : aH} {σ : SM} 
    (g : ((gM_fault σ) ≤ 0 → Go (d + 1) 114 8 [some (.ref 0), none] [] (hM σ) v h') ∧ (¬ (gM_fault σ) ≤ 0 → none = v ∧ hM σ = h')) :
    Go (d + 1) 114 0 [some (.ref 0), none] [] (hM σ) v h' := by
  refine Go.mv (pc' := 4) (L' := [some (.ref 0), none]) (S' := [.int ((gM_fault σ))]) (h1 := hM σ) 2 rfl ?_
  refine Go.zle rfl ⟨fun c1 => ?_, fun c1 => ?_⟩
  · replace g := g.1 c1
    exact g
  · replace g := g.2 c1
    exact Go.rt rfl rfl g.1 g.2
set_option maxRecDepth 100000 in
theorem b_X9_reads_8 {d : Nat} {v : Option Value} {h' : aH} {σ : SM} 
    (g : ∃ (r1 : Int32), Go d 108 0 [some (.ref 0), some (.int ((gM_pos σ)))] [] (hM σ) (some (.int r1)) (hM σ) ∧ ((¬ r1 = (32 : Int32) → ∃ (r3 : Int32), Go d 108 0 [some (.ref 0), some (.int ((gM_pos σ)))] [] (hM (uM_begun σ (gM_pos σ))) (some (.int r3)) (hM (uM_begun σ (gM_pos σ))) ∧ ((0 ≤ r3 → (¬ ((97 : Int32) ≤ r3 ∧ r3 ≤ (122 : Int32)) → ∃ (σ7 : SM), Go d 107 0 [some (.ref 0), some (.int (if (r3 = (59 : Int32)) then (1 : Int32) else 0)), some (.int ((1 : Int32)))] [] (hM (uM_sort (uM_begun σ (gM_pos σ)) (2 : Int32))) (none) (hM σ7) ∧ (none = v ∧ hM (uM_pos σ7 ((gM_pos σ7) + (1 : Int32))) = h')) ∧ (((97 : Int32) ≤ r3 ∧ r3 ≤ (122 : Int32)) → Go (d + 1) 114 82 [some (.ref 0), none] [] (hM (uM_sort (uM_begun σ (gM_pos σ)) (1 : Int32))) v h')) ∧ (¬ 0 ≤ r3 → none = v ∧ hM (uM_sort (uM_begun σ (gM_pos σ)) (0 : Int32)) = h'))) ∧ (r1 = (32 : Int32) → Go (d + 1) 114 8 [some (.ref 0), none] [] (hM (uM_pos σ ((gM_pos σ) + (1 : Int32)))) v h'))) :
    Go (d + 1) 114 8 [some (.ref 0), none] [] (hM σ) v h' := by
  refine Go.mv (pc' := 13) (L' := [some (.ref 0), none]) (S' := [.int ((gM_pos σ)), .ref 0]) (h1 := hM σ) 3 rfl ?_
  obtain ⟨r1, gc, g⟩ := g
  refine Go.ca (rv := some (.int r1)) (h1 := hM σ) (pc' := 16) (L' := [some (.ref 0), none]) (S' := []) (j := 108) (As := [.ref 0, .int ((gM_pos σ))]) rfl rfl rfl rfl gc ?_
  refine Go.mv (pc' := 18) (L' := [some (.ref 0), none]) (S' := [.int ((32 : Int32)), .int (r1)]) (h1 := hM σ) 1 rfl ?_
  refine Go.cne rfl ⟨fun c2 => ?_, fun c2 => ?_⟩
  · replace g := g.1 c2
    refine Go.mv (pc' := 47) (L' := [some (.ref 0), none]) (S' := [.int ((gM_pos σ)), .ref 0]) (h1 := hM (uM_begun σ (gM_pos σ))) 7 rfl ?_
    obtain ⟨r3, gc, g⟩ := g
    refine Go.ca (rv := some (.int r3)) (h1 := hM (uM_begun σ (gM_pos σ))) (pc' := 50) (L' := [some (.ref 0), none]) (S' := []) (j := 108) (As := [.ref 0, .int ((gM_pos σ))]) rfl rfl rfl rfl gc ?_
    refine Go.mv (pc' := 52) (L' := [some (.ref 0), some (.int (r3))]) (S' := [.int (r3)]) (h1 := hM (uM_begun σ (gM_pos σ))) 2 rfl ?_
    refine Go.zge rfl ⟨fun c4 => ?_, fun c4 => ?_⟩
    · replace g := g.1 c4
      refine Go.mv (pc' := 71) (L' := [some (.ref 0), some (.int (r3))]) (S' := [.long ((Int64.ofNat 122)), .long ((Int64.ofNat 97)), .long ((r3).toInt64)]) (h1 := hM (uM_begun σ (gM_pos σ))) 4 rfl ?_
      refine Go.ca (rv := some (.int (if ((97 : Int32) ≤ r3 ∧ r3 ≤ (122 : Int32)) then (1 : Int32) else 0))) (h1 := hM (uM_begun σ (gM_pos σ))) (pc' := 74) (L' := [some (.ref 0), some (.int (r3))]) (S' := []) (j := 102) (As := [.long ((r3).toInt64), .long ((Int64.ofNat 97)), .long ((Int64.ofNat 122))]) rfl rfl rfl rfl (c_X9_in (x := r3) (lo := (97 : Int32)) (hi := (122 : Int32))) ?_
      refine Go.zeq rfl ⟨fun c5 => ?_, fun c5 => ?_⟩
      · replace g := g.1 (ab_bf c5)
        refine Go.mv (pc' := 125) (L' := [some (.ref 0), some (.int (r3))]) (S' := [.int ((59 : Int32)), .int (r3), .ref 0]) (h1 := hM (uM_sort (uM_begun σ (gM_pos σ)) (2 : Int32))) 6 rfl ?_
        suffices gb : Go (d + 1) 114 133 [some (.ref 0), some (.int (r3))] [.int (if (r3 = (59 : Int32)) then (1 : Int32) else 0), .ref 0] (hM (uM_sort (uM_begun σ (gM_pos σ)) (2 : Int32))) v h' by
          refine Go.cne rfl ⟨fun c6 => ?_, fun c6 => ?_⟩
          · rw [if_neg c6] at gb
            refine Go.mv (pc' := 133) (L' := [some (.ref 0), some (.int (r3))]) (S' := [.int ((0 : Int32)), .ref 0]) (h1 := hM (uM_sort (uM_begun σ (gM_pos σ)) (2 : Int32))) 1 rfl ?_
            exact gb
          · rw [if_pos c6] at gb
            refine Go.mv (pc' := 133) (L' := [some (.ref 0), some (.int (r3))]) (S' := [.int ((1 : Int32)), .ref 0]) (h1 := hM (uM_sort (uM_begun σ (gM_pos σ)) (2 : Int32))) 2 rfl ?_
            exact gb
        refine Go.mv (pc' := 134) (L' := [some (.ref 0), some (.int (r3))]) (S' := [.int ((1 : Int32)), .int (if (r3 = (59 : Int32)) then (1 : Int32) else 0), .ref 0]) (h1 := hM (uM_sort (uM_begun σ (gM_pos σ)) (2 : Int32))) 1 rfl ?_
        obtain ⟨σ7, gc, g⟩ := g
        refine Go.ca (rv := none) (h1 := hM σ7) (pc' := 137) (L' := [some (.ref 0), some (.int (r3))]) (S' := []) (j := 107) (As := [.ref 0, .int (if (r3 = (59 : Int32)) then (1 : Int32) else 0), .int ((1 : Int32))]) rfl rfl rfl rfl gc ?_
        refine Go.mv (pc' := 147) (L' := [some (.ref 0), some (.int (r3))]) (S' := []) (h1 := hM (uM_pos σ7 ((gM_pos σ7) + (1 : Int32)))) 6 rfl ?_
        exact Go.rt rfl rfl g.1 g.2
      · replace g := g.2 (ab_bt c5)
        refine Go.mv (pc' := 82) (L' := [some (.ref 0), some (.int (r3))]) (S' := []) (h1 := hM (uM_sort (uM_begun σ (gM_pos σ)) (1 : Int32))) 3 rfl ?_
        exact Go.wk (ab_le_s (ab_le_i (ab_le_nil))) g
    · replace g := g.2 c4
      refine Go.mv (pc' := 147) (L' := [some (.ref 0), some (.int (r3))]) (S' := []) (h1 := hM (uM_sort (uM_begun σ (gM_pos σ)) (0 : Int32))) 4 rfl ?_
      exact Go.rt rfl rfl g.1 g.2
  · replace g := g.2 c2
    refine Go.mv (pc' := 8) (L' := [some (.ref 0), none]) (S' := []) (h1 := hM (uM_pos σ ((gM_pos σ) + (1 : Int32)))) 7 rfl ?_
    exact g
set_option maxRecDepth 100000 in
theorem b_X9_reads_82 {d : Nat} {v : Option Value} {h' : aH} {σ : SM} 
    (g : ∃ (r1 : Int32), Go d 108 0 [some (.ref 0), some (.int ((gM_pos σ)))] [] (hM σ) (some (.int r1)) (hM σ) ∧ ((¬ ((97 : Int32) ≤ r1 ∧ r1 ≤ (122 : Int32)) → none = v ∧ hM σ = h') ∧ (((97 : Int32) ≤ r1 ∧ r1 ≤ (122 : Int32)) → Go (d + 1) 114 82 [some (.ref 0), none] [] (hM (uM_pos σ ((gM_pos σ) + (1 : Int32)))) v h'))) :
    Go (d + 1) 114 82 [some (.ref 0), none] [] (hM σ) v h' := by
  refine Go.mv (pc' := 87) (L' := [some (.ref 0), none]) (S' := [.int ((gM_pos σ)), .ref 0]) (h1 := hM σ) 3 rfl ?_
  obtain ⟨r1, gc, g⟩ := g
  refine Go.ca (rv := some (.int r1)) (h1 := hM σ) (pc' := 90) (L' := [some (.ref 0), none]) (S' := []) (j := 108) (As := [.ref 0, .int ((gM_pos σ))]) rfl rfl rfl rfl gc ?_
  refine Go.mv (pc' := 97) (L' := [some (.ref 0), none]) (S' := [.long ((Int64.ofNat 122)), .long ((Int64.ofNat 97)), .long ((r1).toInt64)]) (h1 := hM σ) 3 rfl ?_
  refine Go.ca (rv := some (.int (if ((97 : Int32) ≤ r1 ∧ r1 ≤ (122 : Int32)) then (1 : Int32) else 0))) (h1 := hM σ) (pc' := 100) (L' := [some (.ref 0), none]) (S' := []) (j := 102) (As := [.long ((r1).toInt64), .long ((Int64.ofNat 97)), .long ((Int64.ofNat 122))]) rfl rfl rfl rfl (c_X9_in (x := r1) (lo := (97 : Int32)) (hi := (122 : Int32))) ?_
  refine Go.zeq rfl ⟨fun c2 => ?_, fun c2 => ?_⟩
  · replace g := g.1 (ab_bf c2)
    exact Go.rt rfl rfl g.1 g.2
  · replace g := g.2 (ab_bt c2)
    refine Go.mv (pc' := 82) (L' := [some (.ref 0), none]) (S' := []) (h1 := hM (uM_pos σ ((gM_pos σ) + (1 : Int32)))) 7 rfl ?_
    exact g
set_option maxRecDepth 100000 in
theorem b_X9_taken_0 {d : Nat} {v : Option Value} {h' : aH} {σ : SM} {p0 : Int32}
    (g : (¬ (gM_fault σ) = 0 → ∃ (σ2 : SM), Go d 114 0 [some (.ref 0), none] [] (hM σ) (none) (hM σ2) ∧ ((¬ (gM_fault σ2) = 0 → (some (.int ((0 : Int32))) : Option Value) = v ∧ hM σ2 = h') ∧ ((gM_fault σ2) = 0 → (some (.int (p0)) : Option Value) = v ∧ hM σ2 = h'))) ∧ ((gM_fault σ) = 0 → ∃ (σ5 : SM), Go d 107 0 [some (.ref 0), some (.int (if (¬ p0 = (-4 : Int32)) then (1 : Int32) else 0)), some (.int ((2 : Int32)))] [] (hM σ) (none) (hM σ5) ∧ (∃ (σ6 : SM), Go d 114 0 [some (.ref 0), none] [] (hM σ5) (none) (hM σ6) ∧ ((¬ (gM_fault σ6) = 0 → (some (.int ((0 : Int32))) : Option Value) = v ∧ hM σ6 = h') ∧ ((gM_fault σ6) = 0 → (some (.int (p0)) : Option Value) = v ∧ hM σ6 = h'))))) :
    Go (d + 1) 115 0 [some (.ref 0), some (.int (p0))] [] (hM σ) v h' := by
  refine Go.mv (pc' := 4) (L' := [some (.ref 0), some (.int (p0))]) (S' := [.int ((gM_fault σ))]) (h1 := hM σ) 2 rfl ?_
  refine Go.zne rfl ⟨fun c1 => ?_, fun c1 => ?_⟩
  · replace g := g.1 c1
    refine Go.mv (pc' := 24) (L' := [some (.ref 0), some (.int (p0))]) (S' := [.ref 0]) (h1 := hM σ) 1 rfl ?_
    obtain ⟨σ2, gc, g⟩ := g
    refine Go.ca (rv := none) (h1 := hM σ2) (pc' := 27) (L' := [some (.ref 0), some (.int (p0))]) (S' := []) (j := 114) (As := [.ref 0]) rfl rfl rfl rfl gc ?_
    refine Go.mv (pc' := 31) (L' := [some (.ref 0), some (.int (p0))]) (S' := [.int ((gM_fault σ2))]) (h1 := hM σ2) 2 rfl ?_
    refine Go.zne rfl ⟨fun c3 => ?_, fun c3 => ?_⟩
    · replace g := g.1 c3
      refine Go.mv (pc' := 39) (L' := [some (.ref 0), some (.int (p0))]) (S' := [.int ((0 : Int32))]) (h1 := hM σ2) 1 rfl ?_
      exact Go.rt rfl rfl g.1 g.2
    · replace g := g.2 c3
      refine Go.mv (pc' := 39) (L' := [some (.ref 0), some (.int (p0))]) (S' := [.int (p0)]) (h1 := hM σ2) 2 rfl ?_
      exact Go.rt rfl rfl g.1 g.2
  · replace g := g.2 c1
    refine Go.mv (pc' := 11) (L' := [some (.ref 0), some (.int (p0))]) (S' := [.int ((-4 : Int32)), .int (p0), .ref 0]) (h1 := hM σ) 3 rfl ?_
    suffices gb : Go (d + 1) 115 19 [some (.ref 0), some (.int (p0))] [.int (if (¬ p0 = (-4 : Int32)) then (1 : Int32) else 0), .ref 0] (hM σ) v h' by
      refine Go.ceq rfl ⟨fun c4 => ?_, fun c4 => ?_⟩
      · rw [if_neg (fun z => z c4)] at gb
        refine Go.mv (pc' := 19) (L' := [some (.ref 0), some (.int (p0))]) (S' := [.int ((0 : Int32)), .ref 0]) (h1 := hM σ) 1 rfl ?_
        exact gb
      · rw [if_pos c4] at gb
        refine Go.mv (pc' := 19) (L' := [some (.ref 0), some (.int (p0))]) (S' := [.int ((1 : Int32)), .ref 0]) (h1 := hM σ) 2 rfl ?_
        exact gb
    refine Go.mv (pc' := 20) (L' := [some (.ref 0), some (.int (p0))]) (S' := [.int ((2 : Int32)), .int (if (¬ p0 = (-4 : Int32)) then (1 : Int32) else 0), .ref 0]) (h1 := hM σ) 1 rfl ?_
    obtain ⟨σ5, gc, g⟩ := g
    refine Go.ca (rv := none) (h1 := hM σ5) (pc' := 23) (L' := [some (.ref 0), some (.int (p0))]) (S' := []) (j := 107) (As := [.ref 0, .int (if (¬ p0 = (-4 : Int32)) then (1 : Int32) else 0), .int ((2 : Int32))]) rfl rfl rfl rfl gc ?_
    refine Go.mv (pc' := 24) (L' := [some (.ref 0), some (.int (p0))]) (S' := [.ref 0]) (h1 := hM σ5) 1 rfl ?_
    obtain ⟨σ6, gc, g⟩ := g
    refine Go.ca (rv := none) (h1 := hM σ6) (pc' := 27) (L' := [some (.ref 0), some (.int (p0))]) (S' := []) (j := 114) (As := [.ref 0]) rfl rfl rfl rfl gc ?_
    refine Go.mv (pc' := 31) (L' := [some (.ref 0), some (.int (p0))]) (S' := [.int ((gM_fault σ6))]) (h1 := hM σ6) 2 rfl ?_
    refine Go.zne rfl ⟨fun c7 => ?_, fun c7 => ?_⟩
    · replace g := g.1 c7
      refine Go.mv (pc' := 39) (L' := [some (.ref 0), some (.int (p0))]) (S' := [.int ((0 : Int32))]) (h1 := hM σ6) 1 rfl ?_
      exact Go.rt rfl rfl g.1 g.2
    · replace g := g.2 c7
      refine Go.mv (pc' := 39) (L' := [some (.ref 0), some (.int (p0))]) (S' := [.int (p0)]) (h1 := hM σ6) 2 rfl ?_
      exact Go.rt rfl rfl g.1 g.2
set_option maxRecDepth 100000 in
theorem b_X9_readPhrases_0 {d : Nat} {v : Option Value} {h' : aH} {σ : SM} 
    (g : Go (d + 1) 116 16 [some (.ref 0), some (.int ((-4 : Int32))), some (.int (if ((gM_fault σ) = 0) then (1 : Int32) else 0)), none, none, none, none] [] (hM σ) v h') :
    Go (d + 1) 116 0 [some (.ref 0), none, none, none, none, none, none] [] (hM σ) v h' := by
  refine Go.mv (pc' := 7) (L' := [some (.ref 0), some (.int ((-4 : Int32))), none, none, none, none, none]) (S' := [.int ((gM_fault σ))]) (h1 := hM σ) 4 rfl ?_
  suffices gb : Go (d + 1) 116 15 [some (.ref 0), some (.int ((-4 : Int32))), none, none, none, none, none] [.int (if ((gM_fault σ) = 0) then (1 : Int32) else 0)] (hM σ) v h' by
    refine Go.zne rfl ⟨fun c1 => ?_, fun c1 => ?_⟩
    · rw [if_neg c1] at gb
      refine Go.mv (pc' := 15) (L' := [some (.ref 0), some (.int ((-4 : Int32))), none, none, none, none, none]) (S' := [.int ((0 : Int32))]) (h1 := hM σ) 1 rfl ?_
      exact gb
    · rw [if_pos c1] at gb
      refine Go.mv (pc' := 15) (L' := [some (.ref 0), some (.int ((-4 : Int32))), none, none, none, none, none]) (S' := [.int ((1 : Int32))]) (h1 := hM σ) 2 rfl ?_
      exact gb
  refine Go.mv (pc' := 16) (L' := [some (.ref 0), some (.int ((-4 : Int32))), some (.int (if ((gM_fault σ) = 0) then (1 : Int32) else 0)), none, none, none, none]) (S' := []) (h1 := hM σ) 1 rfl ?_
  exact g
set_option maxRecDepth 100000 in
theorem b_X9_readPhrases_16 {d : Nat} {v : Option Value} {h' : aH} {σ : SM} {x1 : Int32} {x2 : Int32}
    (g : (x2 = 0 → none = v ∧ hM σ = h') ∧ (¬ x2 = 0 → ∃ (r2 : Int32), Go d 110 0 [some (.ref 0)] [] (hM σ) (some (.int r2)) (hM σ) ∧ (∃ (σ4 : SM), Go d 107 0 [some (.ref 0), some (.int (if (¬ r2 = (-4 : Int32)) then (1 : Int32) else 0)), some (.int ((2 : Int32)))] [] (hM σ) (none) (hM σ4) ∧ (∃ (σ6 : SM), Go d 107 0 [some (.ref 0), some (.int (if (¬ (4 : Int32) ≤ ((gM_draft σ4) 0)) then (1 : Int32) else 0)), some (.int ((3 : Int32)))] [] (hM σ4) (none) (hM σ6) ∧ (∃ (σ7 : SM), Go d 114 0 [some (.ref 0), none] [] (hM σ6) (none) (hM σ7) ∧ ((¬ (gM_fault σ7) = 0 → Go (d + 1) 116 84 [some (.ref 0), some (.int (x1)), none, some (.int (r2)), none, none, none] [.int ((0 : Int32))] (hM σ7) v h') ∧ ((gM_fault σ7) = 0 → ∃ (r9 : Int32), Go d 111 0 [some (.ref 0)] [] (hM σ7) (some (.int r9)) (hM σ7) ∧ (∃ (r10 : Int32) (σ10 : SM), Go d 115 0 [some (.ref 0), some (.int (r9))] [] (hM σ7) (some (.int r10)) (hM σ10) ∧ (Go (d + 1) 116 84 [some (.ref 0), some (.int (x1)), none, some (.int (r2)), none, none, none] [.int (r10)] (hM σ10) v h'))))))))) :
    Go (d + 1) 116 16 [some (.ref 0), some (.int (x1)), some (.int (x2)), none, none, none, none] [] (hM σ) v h' := by
  refine Go.mv (pc' := 17) (L' := [some (.ref 0), some (.int (x1)), some (.int (x2)), none, none, none, none]) (S' := [.int (x2)]) (h1 := hM σ) 1 rfl ?_
  refine Go.zeq rfl ⟨fun c1 => ?_, fun c1 => ?_⟩
  · replace g := g.1 c1
    exact Go.rt rfl rfl g.1 g.2
  · replace g := g.2 c1
    refine Go.mv (pc' := 21) (L' := [some (.ref 0), some (.int (x1)), some (.int (x2)), none, none, none, none]) (S' := [.ref 0]) (h1 := hM σ) 1 rfl ?_
    obtain ⟨r2, gc, g⟩ := g
    refine Go.ca (rv := some (.int r2)) (h1 := hM σ) (pc' := 24) (L' := [some (.ref 0), some (.int (x1)), some (.int (x2)), none, none, none, none]) (S' := []) (j := 110) (As := [.ref 0]) rfl rfl rfl rfl gc ?_
    refine Go.mv (pc' := 29) (L' := [some (.ref 0), some (.int (x1)), some (.int (x2)), some (.int (r2)), none, none, none]) (S' := [.int ((-4 : Int32)), .int (r2), .ref 0]) (h1 := hM σ) 4 rfl ?_
    suffices gb : Go (d + 1) 116 37 [some (.ref 0), some (.int (x1)), some (.int (x2)), some (.int (r2)), none, none, none] [.int (if (¬ r2 = (-4 : Int32)) then (1 : Int32) else 0), .ref 0] (hM σ) v h' by
      refine Go.ceq rfl ⟨fun c3 => ?_, fun c3 => ?_⟩
      · rw [if_neg (fun z => z c3)] at gb
        refine Go.mv (pc' := 37) (L' := [some (.ref 0), some (.int (x1)), some (.int (x2)), some (.int (r2)), none, none, none]) (S' := [.int ((0 : Int32)), .ref 0]) (h1 := hM σ) 1 rfl ?_
        exact gb
      · rw [if_pos c3] at gb
        refine Go.mv (pc' := 37) (L' := [some (.ref 0), some (.int (x1)), some (.int (x2)), some (.int (r2)), none, none, none]) (S' := [.int ((1 : Int32)), .ref 0]) (h1 := hM σ) 2 rfl ?_
        exact gb
    refine Go.mv (pc' := 38) (L' := [some (.ref 0), some (.int (x1)), some (.int (x2)), some (.int (r2)), none, none, none]) (S' := [.int ((2 : Int32)), .int (if (¬ r2 = (-4 : Int32)) then (1 : Int32) else 0), .ref 0]) (h1 := hM σ) 1 rfl ?_
    obtain ⟨σ4, gc, g⟩ := g
    refine Go.ca (rv := none) (h1 := hM σ4) (pc' := 41) (L' := [some (.ref 0), some (.int (x1)), some (.int (x2)), some (.int (r2)), none, none, none]) (S' := []) (j := 107) (As := [.ref 0, .int (if (¬ r2 = (-4 : Int32)) then (1 : Int32) else 0), .int ((2 : Int32))]) rfl rfl rfl rfl gc ?_
    refine Go.mv (pc' := 49) (L' := [some (.ref 0), some (.int (x1)), some (.int (x2)), some (.int (r2)), none, none, none]) (S' := [.int ((4 : Int32)), .int (((gM_draft σ4) 0)), .ref 0]) (h1 := hM σ4) 6 rfl ?_
    suffices gb : Go (d + 1) 116 57 [some (.ref 0), some (.int (x1)), some (.int (x2)), some (.int (r2)), none, none, none] [.int (if (¬ (4 : Int32) ≤ ((gM_draft σ4) 0)) then (1 : Int32) else 0), .ref 0] (hM σ4) v h' by
      refine Go.cge rfl ⟨fun c5 => ?_, fun c5 => ?_⟩
      · rw [if_neg (fun z => z c5)] at gb
        refine Go.mv (pc' := 57) (L' := [some (.ref 0), some (.int (x1)), some (.int (x2)), some (.int (r2)), none, none, none]) (S' := [.int ((0 : Int32)), .ref 0]) (h1 := hM σ4) 1 rfl ?_
        exact gb
      · rw [if_pos c5] at gb
        refine Go.mv (pc' := 57) (L' := [some (.ref 0), some (.int (x1)), some (.int (x2)), some (.int (r2)), none, none, none]) (S' := [.int ((1 : Int32)), .ref 0]) (h1 := hM σ4) 2 rfl ?_
        exact gb
    refine Go.mv (pc' := 58) (L' := [some (.ref 0), some (.int (x1)), some (.int (x2)), some (.int (r2)), none, none, none]) (S' := [.int ((3 : Int32)), .int (if (¬ (4 : Int32) ≤ ((gM_draft σ4) 0)) then (1 : Int32) else 0), .ref 0]) (h1 := hM σ4) 1 rfl ?_
    obtain ⟨σ6, gc, g⟩ := g
    refine Go.ca (rv := none) (h1 := hM σ6) (pc' := 61) (L' := [some (.ref 0), some (.int (x1)), some (.int (x2)), some (.int (r2)), none, none, none]) (S' := []) (j := 107) (As := [.ref 0, .int (if (¬ (4 : Int32) ≤ ((gM_draft σ4) 0)) then (1 : Int32) else 0), .int ((3 : Int32))]) rfl rfl rfl rfl gc ?_
    refine Go.mv (pc' := 62) (L' := [some (.ref 0), some (.int (x1)), some (.int (x2)), some (.int (r2)), none, none, none]) (S' := [.ref 0]) (h1 := hM σ6) 1 rfl ?_
    obtain ⟨σ7, gc, g⟩ := g
    refine Go.ca (rv := none) (h1 := hM σ7) (pc' := 65) (L' := [some (.ref 0), some (.int (x1)), some (.int (x2)), some (.int (r2)), none, none, none]) (S' := []) (j := 114) (As := [.ref 0]) rfl rfl rfl rfl gc ?_
    refine Go.mv (pc' := 69) (L' := [some (.ref 0), some (.int (x1)), some (.int (x2)), some (.int (r2)), none, none, none]) (S' := [.int ((gM_fault σ7))]) (h1 := hM σ7) 2 rfl ?_
    refine Go.zne rfl ⟨fun c8 => ?_, fun c8 => ?_⟩
    · replace g := g.1 c8
      refine Go.mv (pc' := 84) (L' := [some (.ref 0), some (.int (x1)), some (.int (x2)), some (.int (r2)), none, none, none]) (S' := [.int ((0 : Int32))]) (h1 := hM σ7) 1 rfl ?_
      exact Go.wk (ab_le_s (ab_le_s (ab_le_i (ab_le_s (ab_le_s (ab_le_s (ab_le_s (ab_le_nil)))))))) g
    · replace g := g.2 c8
      refine Go.mv (pc' := 74) (L' := [some (.ref 0), some (.int (x1)), some (.int (x2)), some (.int (r2)), none, none, none]) (S' := [.ref 0, .ref 0]) (h1 := hM σ7) 2 rfl ?_
      obtain ⟨r9, gc, g⟩ := g
      refine Go.ca (rv := some (.int r9)) (h1 := hM σ7) (pc' := 77) (L' := [some (.ref 0), some (.int (x1)), some (.int (x2)), some (.int (r2)), none, none, none]) (S' := [.ref 0]) (j := 111) (As := [.ref 0]) rfl rfl rfl rfl gc ?_
      obtain ⟨r10, σ10, gc, g⟩ := g
      refine Go.ca (rv := some (.int r10)) (h1 := hM σ10) (pc' := 80) (L' := [some (.ref 0), some (.int (x1)), some (.int (x2)), some (.int (r2)), none, none, none]) (S' := []) (j := 115) (As := [.ref 0, .int (r9)]) rfl rfl rfl rfl gc ?_
      refine Go.mv (pc' := 84) (L' := [some (.ref 0), some (.int (x1)), some (.int (x2)), some (.int (r2)), none, none, none]) (S' := [.int (r10)]) (h1 := hM σ10) 1 rfl ?_
      exact Go.wk (ab_le_s (ab_le_s (ab_le_i (ab_le_s (ab_le_s (ab_le_s (ab_le_s (ab_le_nil)))))))) g
set_option maxRecDepth 100000 in
theorem b_X9_readPhrases_84 {d : Nat} {v : Option Value} {h' : aH} {σ : SM} {x1 : Int32} {x3 : Int32} {s0 : Int32}
    (g : (¬ (gM_fault σ) = 0 → Go (d + 1) 116 16 [some (.ref 0), some (.int (x1)), some (.int ((0 : Int32))), none, none, none, none] [] (hM σ) v h') ∧ ((gM_fault σ) = 0 → ∃ k2 : Nat, (((3 : Int32) + ((5 : Int32) * ((gM_draft σ) 0))) + (0 : Int32)) = nI k2 ∧ k2 < 64 ∧ (∃ k3 : Nat, (((3 : Int32) + ((5 : Int32) * ((gM_draft σ) 0))) + (1 : Int32)) = nI k3 ∧ k3 < 64 ∧ (∃ k4 : Nat, (((3 : Int32) + ((5 : Int32) * ((gM_draft σ) 0))) + (2 : Int32)) = nI k4 ∧ k4 < 64 ∧ ((x1 = (-4 : Int32) → Go (d + 1) 116 162 [some (.ref 0), some (.int (x1)), none, none, none, some (.int (((gM_draft σ) 0))), some (.int (((3 : Int32) + ((5 : Int32) * ((gM_draft σ) 0)))))] [] (hM (uM_draft σ (upd (upd (upd (gM_draft σ) k2 x3) k3 s0) k4 x1))) v h') ∧ (¬ x1 = (-4 : Int32) → ∃ k6 : Nat, (((3 : Int32) + ((5 : Int32) * x1)) + (4 : Int32)) = nI k6 ∧ k6 < 64 ∧ (Go (d + 1) 116 162 [some (.ref 0), some (.int (x1)), none, none, none, some (.int (((gM_draft σ) 0))), some (.int (((3 : Int32) + ((5 : Int32) * ((gM_draft σ) 0)))))] [] (hM (uM_draft σ (upd (upd (upd (upd (gM_draft σ) k2 x3) k3 s0) k4 x1) k6 ((gM_draft σ) 0)))) v h'))))))) :
    Go (d + 1) 116 84 [some (.ref 0), some (.int (x1)), none, some (.int (x3)), none, none, none] [.int (s0)] (hM σ) v h' := by
  refine Go.mv (pc' := 92) (L' := [some (.ref 0), some (.int (x1)), some (.int ((0 : Int32))), some (.int (x3)), some (.int (s0)), none, none]) (S' := [.int ((gM_fault σ))]) (h1 := hM σ) 5 rfl ?_
  refine Go.zne rfl ⟨fun c1 => ?_, fun c1 => ?_⟩
  · replace g := g.1 c1
    refine Go.mv (pc' := 16) (L' := [some (.ref 0), some (.int (x1)), some (.int ((0 : Int32))), some (.int (x3)), some (.int (s0)), none, none]) (S' := []) (h1 := hM σ) 1 rfl ?_
    exact Go.wk (ab_le_s (ab_le_s (ab_le_s (ab_le_i (ab_le_i (ab_le_s (ab_le_s (ab_le_nil)))))))) g
  · replace g := g.2 c1
    refine Go.mv (pc' := 120) (L' := [some (.ref 0), some (.int (x1)), some (.int ((0 : Int32))), some (.int (x3)), some (.int (s0)), some (.int (((gM_draft σ) 0))), some (.int (((3 : Int32) + ((5 : Int32) * ((gM_draft σ) 0)))))]) (S' := [.int (x3), .int ((((3 : Int32) + ((5 : Int32) * ((gM_draft σ) 0))) + (0 : Int32))), .ref 2]) (h1 := hM σ) 17 rfl ?_
    obtain ⟨k2, ek2, lk2, g⟩ := g
    refine Go.iast rfl rfl (by decide) ⟨k2, ek2, lk2, ?_⟩
    refine Go.mv (pc' := 131) (L' := [some (.ref 0), some (.int (x1)), some (.int ((0 : Int32))), some (.int (x3)), some (.int (s0)), some (.int (((gM_draft σ) 0))), some (.int (((3 : Int32) + ((5 : Int32) * ((gM_draft σ) 0)))))]) (S' := [.int (s0), .int ((((3 : Int32) + ((5 : Int32) * ((gM_draft σ) 0))) + (1 : Int32))), .ref 2]) (h1 := hM (uM_draft σ (upd (gM_draft σ) k2 x3))) 6 rfl ?_
    obtain ⟨k3, ek3, lk3, g⟩ := g
    refine Go.iast rfl rfl (by decide) ⟨k3, ek3, lk3, ?_⟩
    refine Go.mv (pc' := 141) (L' := [some (.ref 0), some (.int (x1)), some (.int ((0 : Int32))), some (.int (x3)), some (.int (s0)), some (.int (((gM_draft σ) 0))), some (.int (((3 : Int32) + ((5 : Int32) * ((gM_draft σ) 0)))))]) (S' := [.int (x1), .int ((((3 : Int32) + ((5 : Int32) * ((gM_draft σ) 0))) + (2 : Int32))), .ref 2]) (h1 := hM (uM_draft σ (upd (upd (gM_draft σ) k2 x3) k3 s0))) 6 rfl ?_
    obtain ⟨k4, ek4, lk4, g⟩ := g
    refine Go.iast rfl rfl (by decide) ⟨k4, ek4, lk4, ?_⟩
    refine Go.mv (pc' := 145) (L' := [some (.ref 0), some (.int (x1)), some (.int ((0 : Int32))), some (.int (x3)), some (.int (s0)), some (.int (((gM_draft σ) 0))), some (.int (((3 : Int32) + ((5 : Int32) * ((gM_draft σ) 0)))))]) (S' := [.int ((-4 : Int32)), .int (x1)]) (h1 := hM (uM_draft σ (upd (upd (upd (gM_draft σ) k2 x3) k3 s0) k4 x1))) 2 rfl ?_
    refine Go.ceq rfl ⟨fun c5 => ?_, fun c5 => ?_⟩
    · replace g := g.1 c5
      exact Go.wk (ab_le_s (ab_le_s (ab_le_i (ab_le_i (ab_le_i (ab_le_s (ab_le_s (ab_le_nil)))))))) g
    · replace g := g.2 c5
      refine Go.mv (pc' := 161) (L' := [some (.ref 0), some (.int (x1)), some (.int ((0 : Int32))), some (.int (x3)), some (.int (s0)), some (.int (((gM_draft σ) 0))), some (.int (((3 : Int32) + ((5 : Int32) * ((gM_draft σ) 0)))))]) (S' := [.int (((gM_draft σ) 0)), .int ((((3 : Int32) + ((5 : Int32) * x1)) + (4 : Int32))), .ref 2]) (h1 := hM (uM_draft σ (upd (upd (upd (gM_draft σ) k2 x3) k3 s0) k4 x1))) 10 rfl ?_
      obtain ⟨k6, ek6, lk6, g⟩ := g
      refine Go.iast rfl rfl (by decide) ⟨k6, ek6, lk6, ?_⟩
      exact Go.wk (ab_le_s (ab_le_s (ab_le_i (ab_le_i (ab_le_i (ab_le_s (ab_le_s (ab_le_nil)))))))) g
set_option maxRecDepth 100000 in
theorem b_X9_readPhrases_162 {d : Nat} {v : Option Value} {h' : aH} {σ : SM} {x1 : Int32} {x5 : Int32} {x6 : Int32}
    (g : ∃ (r1 : Int32), Go d 113 0 [some (.ref 0)] [] (hM (uM_draft σ (upd (gM_draft σ) 0 (((gM_draft σ) 0) + (1 : Int32))))) (some (.int r1)) (hM (uM_draft σ (upd (gM_draft σ) 0 (((gM_draft σ) 0) + (1 : Int32))))) ∧ ((r1 = 0 → Go (d + 1) 116 16 [some (.ref 0), some (.int (x1)), some (.int (r1)), none, none, none, none] [] (hM (uM_draft σ (upd (gM_draft σ) 0 (((gM_draft σ) 0) + (1 : Int32))))) v h') ∧ (¬ r1 = 0 → ∃ (σ3 : SM), Go d 114 0 [some (.ref 0), none] [] (hM (uM_draft σ (upd (gM_draft σ) 0 (((gM_draft σ) 0) + (1 : Int32))))) (none) (hM σ3) ∧ ((¬ (gM_fault σ3) = 0 → Go (d + 1) 116 212 [some (.ref 0), none, none, none, none, some (.int (x5)), none] [.int ((0 : Int32)), .int ((x6 + (3 : Int32))), .ref 2] (hM σ3) v h') ∧ ((gM_fault σ3) = 0 → ∃ (r5 : Int32), Go d 112 0 [some (.ref 0)] [] (hM σ3) (some (.int r5)) (hM σ3) ∧ (∃ (r6 : Int32) (σ6 : SM), Go d 115 0 [some (.ref 0), some (.int (r5))] [] (hM σ3) (some (.int r6)) (hM σ6) ∧ (Go (d + 1) 116 212 [some (.ref 0), none, none, none, none, some (.int (x5)), none] [.int (r6), .int ((x6 + (3 : Int32))), .ref 2] (hM σ6) v h'))))))) :
    Go (d + 1) 116 162 [some (.ref 0), some (.int (x1)), none, none, none, some (.int (x5)), some (.int (x6))] [] (hM σ) v h' := by
  refine Go.mv (pc' := 173) (L' := [some (.ref 0), some (.int (x1)), none, none, none, some (.int (x5)), some (.int (x6))]) (S' := [.ref 0]) (h1 := hM (uM_draft σ (upd (gM_draft σ) 0 (((gM_draft σ) 0) + (1 : Int32))))) 9 rfl ?_
  obtain ⟨r1, gc, g⟩ := g
  refine Go.ca (rv := some (.int r1)) (h1 := hM (uM_draft σ (upd (gM_draft σ) 0 (((gM_draft σ) 0) + (1 : Int32))))) (pc' := 176) (L' := [some (.ref 0), some (.int (x1)), none, none, none, some (.int (x5)), some (.int (x6))]) (S' := []) (j := 113) (As := [.ref 0]) rfl rfl rfl rfl gc ?_
  refine Go.mv (pc' := 178) (L' := [some (.ref 0), some (.int (x1)), some (.int (r1)), none, none, some (.int (x5)), some (.int (x6))]) (S' := [.int (r1)]) (h1 := hM (uM_draft σ (upd (gM_draft σ) 0 (((gM_draft σ) 0) + (1 : Int32))))) 2 rfl ?_
  refine Go.zeq rfl ⟨fun c2 => ?_, fun c2 => ?_⟩
  · replace g := g.1 c2
    refine Go.mv (pc' := 16) (L' := [some (.ref 0), some (.int (x1)), some (.int (r1)), none, none, some (.int (x5)), some (.int (x6))]) (S' := []) (h1 := hM (uM_draft σ (upd (gM_draft σ) 0 (((gM_draft σ) 0) + (1 : Int32))))) 1 rfl ?_
    exact Go.wk (ab_le_s (ab_le_s (ab_le_s (ab_le_s (ab_le_s (ab_le_i (ab_le_i (ab_le_nil)))))))) g
  · replace g := g.2 c2
    refine Go.mv (pc' := 182) (L' := [some (.ref 0), some (.int (x1)), some (.int (r1)), none, none, some (.int (x5)), some (.int (x6))]) (S' := [.ref 0]) (h1 := hM (uM_draft σ (upd (gM_draft σ) 0 (((gM_draft σ) 0) + (1 : Int32))))) 1 rfl ?_
    obtain ⟨σ3, gc, g⟩ := g
    refine Go.ca (rv := none) (h1 := hM σ3) (pc' := 185) (L' := [some (.ref 0), some (.int (x1)), some (.int (r1)), none, none, some (.int (x5)), some (.int (x6))]) (S' := []) (j := 114) (As := [.ref 0]) rfl rfl rfl rfl gc ?_
    refine Go.mv (pc' := 197) (L' := [some (.ref 0), some (.int (x1)), some (.int (r1)), none, none, some (.int (x5)), some (.int (x6))]) (S' := [.int ((gM_fault σ3)), .int ((x6 + (3 : Int32))), .ref 2]) (h1 := hM σ3) 7 rfl ?_
    refine Go.zne rfl ⟨fun c4 => ?_, fun c4 => ?_⟩
    · replace g := g.1 c4
      refine Go.mv (pc' := 212) (L' := [some (.ref 0), some (.int (x1)), some (.int (r1)), none, none, some (.int (x5)), some (.int (x6))]) (S' := [.int ((0 : Int32)), .int ((x6 + (3 : Int32))), .ref 2]) (h1 := hM σ3) 1 rfl ?_
      exact Go.wk (ab_le_s (ab_le_i (ab_le_i (ab_le_s (ab_le_s (ab_le_s (ab_le_i (ab_le_nil)))))))) g
    · replace g := g.2 c4
      refine Go.mv (pc' := 202) (L' := [some (.ref 0), some (.int (x1)), some (.int (r1)), none, none, some (.int (x5)), some (.int (x6))]) (S' := [.ref 0, .ref 0, .int ((x6 + (3 : Int32))), .ref 2]) (h1 := hM σ3) 2 rfl ?_
      obtain ⟨r5, gc, g⟩ := g
      refine Go.ca (rv := some (.int r5)) (h1 := hM σ3) (pc' := 205) (L' := [some (.ref 0), some (.int (x1)), some (.int (r1)), none, none, some (.int (x5)), some (.int (x6))]) (S' := [.ref 0, .int ((x6 + (3 : Int32))), .ref 2]) (j := 112) (As := [.ref 0]) rfl rfl rfl rfl gc ?_
      obtain ⟨r6, σ6, gc, g⟩ := g
      refine Go.ca (rv := some (.int r6)) (h1 := hM σ6) (pc' := 208) (L' := [some (.ref 0), some (.int (x1)), some (.int (r1)), none, none, some (.int (x5)), some (.int (x6))]) (S' := [.int ((x6 + (3 : Int32))), .ref 2]) (j := 115) (As := [.ref 0, .int (r5)]) rfl rfl rfl rfl gc ?_
      refine Go.mv (pc' := 212) (L' := [some (.ref 0), some (.int (x1)), some (.int (r1)), none, none, some (.int (x5)), some (.int (x6))]) (S' := [.int (r6), .int ((x6 + (3 : Int32))), .ref 2]) (h1 := hM σ6) 1 rfl ?_
      exact Go.wk (ab_le_s (ab_le_i (ab_le_i (ab_le_s (ab_le_s (ab_le_s (ab_le_i (ab_le_nil)))))))) g
set_option maxRecDepth 100000 in
theorem b_X9_readPhrases_212 {d : Nat} {v : Option Value} {h' : aH} {σ : SM} {x5 : Int32} {s0 : Int32} {s1 : Int32}
    (g : ∃ k1 : Nat, s1 = nI k1 ∧ k1 < 64 ∧ (Go (d + 1) 116 16 [some (.ref 0), some (.int (x5)), some (.int (if ((gM_fault σ) = 0) then (1 : Int32) else 0)), none, none, none, none] [] (hM (uM_draft σ (upd (gM_draft σ) k1 s0))) v h')) :
    Go (d + 1) 116 212 [some (.ref 0), none, none, none, none, some (.int (x5)), none] [.int (s0), .int (s1), .ref 2] (hM σ) v h' := by
  obtain ⟨k1, ek1, lk1, g⟩ := g
  refine Go.iast rfl rfl (by decide) ⟨k1, ek1, lk1, ?_⟩
  refine Go.mv (pc' := 220) (L' := [some (.ref 0), some (.int (x5)), none, none, none, some (.int (x5)), none]) (S' := [.int ((gM_fault σ))]) (h1 := hM (uM_draft σ (upd (gM_draft σ) k1 s0))) 4 rfl ?_
  suffices gb : Go (d + 1) 116 228 [some (.ref 0), some (.int (x5)), none, none, none, some (.int (x5)), none] [.int (if ((gM_fault σ) = 0) then (1 : Int32) else 0)] (hM (uM_draft σ (upd (gM_draft σ) k1 s0))) v h' by
    refine Go.zne rfl ⟨fun c2 => ?_, fun c2 => ?_⟩
    · rw [if_neg c2] at gb
      refine Go.mv (pc' := 228) (L' := [some (.ref 0), some (.int (x5)), none, none, none, some (.int (x5)), none]) (S' := [.int ((0 : Int32))]) (h1 := hM (uM_draft σ (upd (gM_draft σ) k1 s0))) 1 rfl ?_
      exact gb
    · rw [if_pos c2] at gb
      refine Go.mv (pc' := 228) (L' := [some (.ref 0), some (.int (x5)), none, none, none, some (.int (x5)), none]) (S' := [.int ((1 : Int32))]) (h1 := hM (uM_draft σ (upd (gM_draft σ) k1 s0))) 2 rfl ?_
      exact gb
  refine Go.mv (pc' := 16) (L' := [some (.ref 0), some (.int (x5)), some (.int (if ((gM_fault σ) = 0) then (1 : Int32) else 0)), none, none, some (.int (x5)), none]) (S' := []) (h1 := hM (uM_draft σ (upd (gM_draft σ) k1 s0))) 2 rfl ?_
  exact Go.wk (ab_le_s (ab_le_s (ab_le_s (ab_le_s (ab_le_s (ab_le_i (ab_le_s (ab_le_nil)))))))) g
set_option maxRecDepth 100000 in
theorem b_X9_text_0 {d : Nat} {v : Option Value} {h' : aH} {σ : SM} 
    (g : Go (d + 1) 117 12 [some (.ref 0), some (.int ((0 : Int32)))] [] (hM (uM_fault (uM_pos σ (0 : Int32)) (0 : Int32))) v h') :
    Go (d + 1) 117 0 [some (.ref 0), none] [] (hM σ) v h' := by
  refine Go.mv (pc' := 12) (L' := [some (.ref 0), some (.int ((0 : Int32)))]) (S' := []) (h1 := hM (uM_fault (uM_pos σ (0 : Int32)) (0 : Int32))) 8 rfl ?_
  exact g
set_option maxRecDepth 100000 in
theorem b_X9_text_12 {d : Nat} {v : Option Value} {h' : aH} {σ : SM} {x1 : Int32}
    (g : ((23 : Int32) ≤ x1 → ∃ (σ2 : SM), Go d 104 0 [some (.ref 2), none] [] (hM σ) (none) (hM σ2) ∧ (∃ (σ3 : SM), Go d 114 0 [some (.ref 0), none] [] (hM σ2) (none) (hM σ3) ∧ (∃ (σ4 : SM), Go d 116 0 [some (.ref 0), none, none, none, none, none, none] [] (hM σ3) (none) (hM σ4) ∧ ((¬ (gM_fault σ4) = 0 → Go (d + 1) 117 70 [some (.ref 0), none] [.int ((0 : Int32)), .int ((2 : Int32)), .ref 2] (hM σ4) v h') ∧ ((gM_fault σ4) = 0 → ∃ (r6 : Int32), Go d 112 0 [some (.ref 0)] [] (hM σ4) (some (.int r6)) (hM σ4) ∧ (∃ (r7 : Int32) (σ7 : SM), Go d 115 0 [some (.ref 0), some (.int (r6))] [] (hM σ4) (some (.int r7)) (hM σ7) ∧ (Go (d + 1) 117 70 [some (.ref 0), none] [.int (r7), .int ((2 : Int32)), .ref 2] (hM σ7) v h'))))))) ∧ (¬ (23 : Int32) ≤ x1 → ∃ k8 : Nat, x1 = nI k8 ∧ k8 < 64 ∧ (Go (d + 1) 117 12 [some (.ref 0), some (.int ((x1 + (1 : Int32))))] [] (hM (uM_draft σ (upd (gM_draft σ) k8 (0 : Int32)))) v h'))) :
    Go (d + 1) 117 12 [some (.ref 0), some (.int (x1))] [] (hM σ) v h' := by
  refine Go.mv (pc' := 15) (L' := [some (.ref 0), some (.int (x1))]) (S' := [.int ((23 : Int32)), .int (x1)]) (h1 := hM σ) 2 rfl ?_
  refine Go.cge rfl ⟨fun c1 => ?_, fun c1 => ?_⟩
  · replace g := g.1 c1
    refine Go.mv (pc' := 35) (L' := [some (.ref 0), some (.int (x1))]) (S' := [.ref 2]) (h1 := hM σ) 2 rfl ?_
    obtain ⟨σ2, gc, g⟩ := g
    refine Go.ca (rv := none) (h1 := hM σ2) (pc' := 38) (L' := [some (.ref 0), some (.int (x1))]) (S' := []) (j := 104) (As := [.ref 2]) rfl rfl rfl rfl gc ?_
    refine Go.mv (pc' := 39) (L' := [some (.ref 0), some (.int (x1))]) (S' := [.ref 0]) (h1 := hM σ2) 1 rfl ?_
    obtain ⟨σ3, gc, g⟩ := g
    refine Go.ca (rv := none) (h1 := hM σ3) (pc' := 42) (L' := [some (.ref 0), some (.int (x1))]) (S' := []) (j := 114) (As := [.ref 0]) rfl rfl rfl rfl gc ?_
    refine Go.mv (pc' := 43) (L' := [some (.ref 0), some (.int (x1))]) (S' := [.ref 0]) (h1 := hM σ3) 1 rfl ?_
    obtain ⟨σ4, gc, g⟩ := g
    refine Go.ca (rv := none) (h1 := hM σ4) (pc' := 46) (L' := [some (.ref 0), some (.int (x1))]) (S' := []) (j := 116) (As := [.ref 0]) rfl rfl rfl rfl gc ?_
    refine Go.mv (pc' := 55) (L' := [some (.ref 0), some (.int (x1))]) (S' := [.int ((gM_fault σ4)), .int ((2 : Int32)), .ref 2]) (h1 := hM σ4) 5 rfl ?_
    refine Go.zne rfl ⟨fun c5 => ?_, fun c5 => ?_⟩
    · replace g := g.1 c5
      refine Go.mv (pc' := 70) (L' := [some (.ref 0), some (.int (x1))]) (S' := [.int ((0 : Int32)), .int ((2 : Int32)), .ref 2]) (h1 := hM σ4) 1 rfl ?_
      exact Go.wk (ab_le_s (ab_le_i (ab_le_nil))) g
    · replace g := g.2 c5
      refine Go.mv (pc' := 60) (L' := [some (.ref 0), some (.int (x1))]) (S' := [.ref 0, .ref 0, .int ((2 : Int32)), .ref 2]) (h1 := hM σ4) 2 rfl ?_
      obtain ⟨r6, gc, g⟩ := g
      refine Go.ca (rv := some (.int r6)) (h1 := hM σ4) (pc' := 63) (L' := [some (.ref 0), some (.int (x1))]) (S' := [.ref 0, .int ((2 : Int32)), .ref 2]) (j := 112) (As := [.ref 0]) rfl rfl rfl rfl gc ?_
      obtain ⟨r7, σ7, gc, g⟩ := g
      refine Go.ca (rv := some (.int r7)) (h1 := hM σ7) (pc' := 66) (L' := [some (.ref 0), some (.int (x1))]) (S' := [.int ((2 : Int32)), .ref 2]) (j := 115) (As := [.ref 0, .int (r6)]) rfl rfl rfl rfl gc ?_
      refine Go.mv (pc' := 70) (L' := [some (.ref 0), some (.int (x1))]) (S' := [.int (r7), .int ((2 : Int32)), .ref 2]) (h1 := hM σ7) 1 rfl ?_
      exact Go.wk (ab_le_s (ab_le_i (ab_le_nil))) g
  · replace g := g.2 c1
    refine Go.mv (pc' := 24) (L' := [some (.ref 0), some (.int (x1))]) (S' := [.int ((0 : Int32)), .int (x1), .ref 2]) (h1 := hM σ) 4 rfl ?_
    obtain ⟨k8, ek8, lk8, g⟩ := g
    refine Go.iast rfl rfl (by decide) ⟨k8, ek8, lk8, ?_⟩
    refine Go.mv (pc' := 12) (L' := [some (.ref 0), some (.int ((x1 + (1 : Int32))))]) (S' := []) (h1 := hM (uM_draft σ (upd (gM_draft σ) k8 (0 : Int32)))) 2 rfl ?_
    exact g
set_option maxRecDepth 100000 in
theorem b_X9_text_70 {d : Nat} {v : Option Value} {h' : aH} {σ : SM} {s0 : Int32} {s1 : Int32}
    (g : ∃ k1 : Nat, s1 = nI k1 ∧ k1 < 64 ∧ (∃ (σ2 : SM), Go d 116 0 [some (.ref 0), none, none, none, none, none, none] [] (hM (uM_draft σ (upd (upd (gM_draft σ) k1 s0) 1 ((upd (gM_draft σ) k1 s0) 0)))) (none) (hM σ2) ∧ ((¬ (gM_fault σ2) = 0 → Go (d + 1) 117 112 [some (.ref 0), none] [] (hM σ2) v h') ∧ ((gM_fault σ2) = 0 → ∃ (σ5 : SM), Go d 107 0 [some (.ref 0), some (.int (if ((gM_sort σ2) = (2 : Int32)) then (1 : Int32) else 0)), some (.int ((2 : Int32)))] [] (hM σ2) (none) (hM σ5) ∧ (Go (d + 1) 117 112 [some (.ref 0), none] [] (hM σ5) v h'))))) :
    Go (d + 1) 117 70 [some (.ref 0), none] [.int (s0), .int (s1), .ref 2] (hM σ) v h' := by
  obtain ⟨k1, ek1, lk1, g⟩ := g
  refine Go.iast rfl rfl (by decide) ⟨k1, ek1, lk1, ?_⟩
  refine Go.mv (pc' := 84) (L' := [some (.ref 0), none]) (S' := [.ref 0]) (h1 := hM (uM_draft σ (upd (upd (gM_draft σ) k1 s0) 1 ((upd (gM_draft σ) k1 s0) 0)))) 9 rfl ?_
  obtain ⟨σ2, gc, g⟩ := g
  refine Go.ca (rv := none) (h1 := hM σ2) (pc' := 87) (L' := [some (.ref 0), none]) (S' := []) (j := 116) (As := [.ref 0]) rfl rfl rfl rfl gc ?_
  refine Go.mv (pc' := 91) (L' := [some (.ref 0), none]) (S' := [.int ((gM_fault σ2))]) (h1 := hM σ2) 2 rfl ?_
  refine Go.zne rfl ⟨fun c3 => ?_, fun c3 => ?_⟩
  · replace g := g.1 c3
    exact g
  · replace g := g.2 c3
    refine Go.mv (pc' := 100) (L' := [some (.ref 0), none]) (S' := [.int ((2 : Int32)), .int ((gM_sort σ2)), .ref 0]) (h1 := hM σ2) 4 rfl ?_
    suffices gb : Go (d + 1) 117 108 [some (.ref 0), none] [.int (if ((gM_sort σ2) = (2 : Int32)) then (1 : Int32) else 0), .ref 0] (hM σ2) v h' by
      refine Go.cne rfl ⟨fun c4 => ?_, fun c4 => ?_⟩
      · rw [if_neg c4] at gb
        refine Go.mv (pc' := 108) (L' := [some (.ref 0), none]) (S' := [.int ((0 : Int32)), .ref 0]) (h1 := hM σ2) 1 rfl ?_
        exact gb
      · rw [if_pos c4] at gb
        refine Go.mv (pc' := 108) (L' := [some (.ref 0), none]) (S' := [.int ((1 : Int32)), .ref 0]) (h1 := hM σ2) 2 rfl ?_
        exact gb
    refine Go.mv (pc' := 109) (L' := [some (.ref 0), none]) (S' := [.int ((2 : Int32)), .int (if ((gM_sort σ2) = (2 : Int32)) then (1 : Int32) else 0), .ref 0]) (h1 := hM σ2) 1 rfl ?_
    obtain ⟨σ5, gc, g⟩ := g
    refine Go.ca (rv := none) (h1 := hM σ5) (pc' := 112) (L' := [some (.ref 0), none]) (S' := []) (j := 107) (As := [.ref 0, .int (if ((gM_sort σ2) = (2 : Int32)) then (1 : Int32) else 0), .int ((2 : Int32))]) rfl rfl rfl rfl gc ?_
    exact g
set_option maxRecDepth 100000 in
theorem b_X9_text_112 {d : Nat} {v : Option Value} {h' : aH} {σ : SM} 
    (g : ∃ (σ1 : SM), Go d 114 0 [some (.ref 0), none] [] (hM σ) (none) (hM σ1) ∧ ((¬ (gM_fault σ1) = 0 → Go (d + 1) 117 140 [some (.ref 0), none] [] (hM σ1) v h') ∧ ((gM_fault σ1) = 0 → ∃ (σ4 : SM), Go d 107 0 [some (.ref 0), some (.int (if ((gM_sort σ1) = 0) then (1 : Int32) else 0)), some (.int ((2 : Int32)))] [] (hM σ1) (none) (hM σ4) ∧ (Go (d + 1) 117 140 [some (.ref 0), none] [] (hM σ4) v h')))) :
    Go (d + 1) 117 112 [some (.ref 0), none] [] (hM σ) v h' := by
  refine Go.mv (pc' := 113) (L' := [some (.ref 0), none]) (S' := [.ref 0]) (h1 := hM σ) 1 rfl ?_
  obtain ⟨σ1, gc, g⟩ := g
  refine Go.ca (rv := none) (h1 := hM σ1) (pc' := 116) (L' := [some (.ref 0), none]) (S' := []) (j := 114) (As := [.ref 0]) rfl rfl rfl rfl gc ?_
  refine Go.mv (pc' := 120) (L' := [some (.ref 0), none]) (S' := [.int ((gM_fault σ1))]) (h1 := hM σ1) 2 rfl ?_
  refine Go.zne rfl ⟨fun c2 => ?_, fun c2 => ?_⟩
  · replace g := g.1 c2
    exact g
  · replace g := g.2 c2
    refine Go.mv (pc' := 128) (L' := [some (.ref 0), none]) (S' := [.int ((gM_sort σ1)), .ref 0]) (h1 := hM σ1) 3 rfl ?_
    suffices gb : Go (d + 1) 117 136 [some (.ref 0), none] [.int (if ((gM_sort σ1) = 0) then (1 : Int32) else 0), .ref 0] (hM σ1) v h' by
      refine Go.zne rfl ⟨fun c3 => ?_, fun c3 => ?_⟩
      · rw [if_neg c3] at gb
        refine Go.mv (pc' := 136) (L' := [some (.ref 0), none]) (S' := [.int ((0 : Int32)), .ref 0]) (h1 := hM σ1) 1 rfl ?_
        exact gb
      · rw [if_pos c3] at gb
        refine Go.mv (pc' := 136) (L' := [some (.ref 0), none]) (S' := [.int ((1 : Int32)), .ref 0]) (h1 := hM σ1) 2 rfl ?_
        exact gb
    refine Go.mv (pc' := 137) (L' := [some (.ref 0), none]) (S' := [.int ((2 : Int32)), .int (if ((gM_sort σ1) = 0) then (1 : Int32) else 0), .ref 0]) (h1 := hM σ1) 1 rfl ?_
    obtain ⟨σ4, gc, g⟩ := g
    refine Go.ca (rv := none) (h1 := hM σ4) (pc' := 140) (L' := [some (.ref 0), none]) (S' := []) (j := 107) (As := [.ref 0, .int (if ((gM_sort σ1) = 0) then (1 : Int32) else 0), .int ((2 : Int32))]) rfl rfl rfl rfl gc ?_
    exact g
set_option maxRecDepth 100000 in
theorem b_X9_text_140 {d : Nat} {v : Option Value} {h' : aH} {σ : SM} 
    (g : ((gM_fault σ) ≤ 0 → Go (d + 1) 117 162 [some (.ref 0), some (.int ((0 : Int32)))] [] (hM (uM_taped σ (0 : Int32))) v h') ∧ (¬ (gM_fault σ) ≤ 0 → (some (.int (((-10 : Int32) - (gM_wrongAt σ)))) : Option Value) = v ∧ hM (uM_taped σ (0 : Int32)) = h')) :
    Go (d + 1) 117 140 [some (.ref 0), none] [] (hM σ) v h' := by
  refine Go.mv (pc' := 149) (L' := [some (.ref 0), none]) (S' := [.int ((gM_fault σ))]) (h1 := hM (uM_taped σ (0 : Int32))) 5 rfl ?_
  refine Go.zle rfl ⟨fun c1 => ?_, fun c1 => ?_⟩
  · replace g := g.1 c1
    refine Go.mv (pc' := 162) (L' := [some (.ref 0), some (.int ((0 : Int32)))]) (S' := []) (h1 := hM (uM_taped σ (0 : Int32))) 2 rfl ?_
    exact g
  · replace g := g.2 c1
    refine Go.mv (pc' := 159) (L' := [some (.ref 0), none]) (S' := [.int (((-10 : Int32) - (gM_wrongAt σ)))]) (h1 := hM (uM_taped σ (0 : Int32))) 4 rfl ?_
    exact Go.rt rfl rfl g.1 g.2
set_option maxRecDepth 100000 in
theorem b_X9_text_162 {d : Nat} {v : Option Value} {h' : aH} {σ : SM} {x1 : Int32}
    (g : ((23 : Int32) ≤ x1 → (some (.int (((gM_st σ) 0))) : Option Value) = v ∧ hM (uM_isFound σ (0 : Int32)) = h') ∧ (¬ (23 : Int32) ≤ x1 → ∃ k2 : Nat, x1 = nI k2 ∧ k2 < 64 ∧ (∃ k3 : Nat, x1 = nI k3 ∧ k3 < 64 ∧ (Go (d + 1) 117 162 [some (.ref 0), some (.int ((x1 + (1 : Int32))))] [] (hM (uM_st σ (upd (gM_st σ) k3 ((gM_draft σ) k2)))) v h')))) :
    Go (d + 1) 117 162 [some (.ref 0), some (.int (x1))] [] (hM σ) v h' := by
  refine Go.mv (pc' := 165) (L' := [some (.ref 0), some (.int (x1))]) (S' := [.int ((23 : Int32)), .int (x1)]) (h1 := hM σ) 2 rfl ?_
  refine Go.cge rfl ⟨fun c1 => ?_, fun c1 => ?_⟩
  · replace g := g.1 c1
    refine Go.mv (pc' := 197) (L' := [some (.ref 0), some (.int (x1))]) (S' := [.int (((gM_st σ) 0))]) (h1 := hM (uM_isFound σ (0 : Int32))) 7 rfl ?_
    exact Go.rt rfl rfl g.1 g.2
  · replace g := g.2 c1
    refine Go.mv (pc' := 178) (L' := [some (.ref 0), some (.int (x1))]) (S' := [.int (x1), .ref 2, .int (x1), .ref 1]) (h1 := hM σ) 6 rfl ?_
    obtain ⟨k2, ek2, lk2, g⟩ := g
    refine Go.iald rfl rfl (by decide) ⟨k2, ek2, lk2, ?_⟩
    obtain ⟨k3, ek3, lk3, g⟩ := g
    refine Go.iast rfl rfl (by decide) ⟨k3, ek3, lk3, ?_⟩
    refine Go.mv (pc' := 162) (L' := [some (.ref 0), some (.int ((x1 + (1 : Int32))))]) (S' := []) (h1 := hM (uM_st σ (upd (gM_st σ) k3 ((gM_draft σ) k2)))) 2 rfl ?_
    exact g
set_option maxRecDepth 100000 in
theorem b_X9_fault_0 {d : Nat} {v : Option Value} {h' : aH} {σ : SM} 
    (g : (some (.int ((gM_fault σ))) : Option Value) = v ∧ hM σ = h') :
    Go (d) 118 0 [some (.ref 0)] [] (hM σ) v h' := by
  refine Go.mv (pc' := 4) (L' := [some (.ref 0)]) (S' := [.int ((gM_fault σ))]) (h1 := hM σ) 2 rfl ?_
  exact Go.rt rfl rfl g.1 g.2
set_option maxRecDepth 100000 in
theorem b_X9_of_0 {d : Nat} {v : Option Value} {h' : aH} {σ : SM} {p0 : Int32} {p1 : Int32}
    (g : ∃ k1 : Nat, (((3 : Int32) + ((5 : Int32) * p0)) + p1) = nI k1 ∧ k1 < 64 ∧ ((some (.int (((gM_st σ) k1))) : Option Value) = v ∧ hM σ = h')) :
    Go (d) 119 0 [some (.ref 0), some (.int (p0)), some (.int (p1))] [] (hM σ) v h' := by
  refine Go.mv (pc' := 11) (L' := [some (.ref 0), some (.int (p0)), some (.int (p1))]) (S' := [.int ((((3 : Int32) + ((5 : Int32) * p0)) + p1)), .ref 1]) (h1 := hM σ) 9 rfl ?_
  obtain ⟨k1, ek1, lk1, g⟩ := g
  refine Go.iald rfl rfl (by decide) ⟨k1, ek1, lk1, ?_⟩
  exact Go.rt rfl rfl g.1 g.2
set_option maxRecDepth 100000 in
theorem b_X9_findsPlaces_0 {d : Nat} {v : Option Value} {h' : aH} {σ : SM} 
    (g : Go (d + 1) 120 9 [some (.ref 0), some (.int (((gM_st σ) 0))), some (.int ((0 : Int32))), none, none] [] (hM σ) v h') :
    Go (d + 1) 120 0 [some (.ref 0), none, none, none, none] [] (hM σ) v h' := by
  refine Go.mv (pc' := 9) (L' := [some (.ref 0), some (.int (((gM_st σ) 0))), some (.int ((0 : Int32))), none, none]) (S' := []) (h1 := hM σ) 7 rfl ?_
  exact g
set_option maxRecDepth 100000 in
theorem b_X9_findsPlaces_9 {d : Nat} {v : Option Value} {h' : aH} {σ : SM} {x1 : Int32} {x2 : Int32}
    (g : (x1 ≤ x2 → Go (d + 1) 120 34 [some (.ref 0), some (.int (x1)), some (.int ((0 : Int32))), none, none] [] (hM σ) v h') ∧ (¬ x1 ≤ x2 → ∃ k2 : Nat, x2 = nI k2 ∧ k2 < 4 ∧ (∃ k3 : Nat, ((gM_now σ) k2) = nI k3 ∧ k3 < 4 ∧ (Go (d + 1) 120 9 [some (.ref 0), some (.int (x1)), some (.int ((x2 + (1 : Int32)))), none, none] [] (hM (uM_at σ (upd (gM_at σ) k3 x2))) v h')))) :
    Go (d + 1) 120 9 [some (.ref 0), some (.int (x1)), some (.int (x2)), none, none] [] (hM σ) v h' := by
  refine Go.mv (pc' := 11) (L' := [some (.ref 0), some (.int (x1)), some (.int (x2)), none, none]) (S' := [.int (x1), .int (x2)]) (h1 := hM σ) 2 rfl ?_
  refine Go.cge rfl ⟨fun c1 => ?_, fun c1 => ?_⟩
  · replace g := g.1 c1
    refine Go.mv (pc' := 34) (L' := [some (.ref 0), some (.int (x1)), some (.int ((0 : Int32))), none, none]) (S' := []) (h1 := hM σ) 2 rfl ?_
    exact g
  · replace g := g.2 c1
    refine Go.mv (pc' := 23) (L' := [some (.ref 0), some (.int (x1)), some (.int (x2)), none, none]) (S' := [.int (x2), .ref 9, .ref 10]) (h1 := hM σ) 5 rfl ?_
    obtain ⟨k2, ek2, lk2, g⟩ := g
    refine Go.iald rfl rfl (by decide) ⟨k2, ek2, lk2, ?_⟩
    refine Go.mv (pc' := 25) (L' := [some (.ref 0), some (.int (x1)), some (.int (x2)), none, none]) (S' := [.int (x2), .int (((gM_now σ) k2)), .ref 10]) (h1 := hM σ) 1 rfl ?_
    obtain ⟨k3, ek3, lk3, g⟩ := g
    refine Go.iast rfl rfl (by decide) ⟨k3, ek3, lk3, ?_⟩
    refine Go.mv (pc' := 9) (L' := [some (.ref 0), some (.int (x1)), some (.int ((x2 + (1 : Int32)))), none, none]) (S' := []) (h1 := hM (uM_at σ (upd (gM_at σ) k3 x2))) 2 rfl ?_
    exact g
set_option maxRecDepth 100000 in
theorem b_X9_findsPlaces_34 {d : Nat} {v : Option Value} {h' : aH} {σ : SM} {x1 : Int32} {x2 : Int32}
    (g : (x1 ≤ x2 → Go (d + 1) 120 143 [some (.ref 0), some (.int (x1)), some (.int ((0 : Int32))), none, none] [] (hM σ) v h') ∧ (¬ x1 ≤ x2 → ∃ k102 : Nat, (((3 : Int32) + ((5 : Int32) * x2)) + (2 : Int32)) = nI k102 ∧ k102 < 64 ∧ (∃ k2 : Nat, x2 = nI k2 ∧ k2 < 4 ∧ ((((gM_st σ) k102) = (-4 : Int32) → Go (d + 1) 120 34 [some (.ref 0), some (.int (x1)), some (.int ((x2 + (1 : Int32)))), none, none] [] (hM (uM_place σ (upd (gM_place σ) k2 ((gM_st σ) k102)))) v h') ∧ (¬ ((gM_st σ) k102) = (-4 : Int32) → ∃ k4 : Nat, x2 = nI k4 ∧ k4 < 4 ∧ (∃ k5 : Nat, ((gM_st σ) k102) = nI k5 ∧ k5 < 4 ∧ ((((gM_at σ) k5) ≤ ((gM_at σ) k4) → Go (d + 1) 120 34 [some (.ref 0), some (.int (x1)), some (.int ((x2 + (1 : Int32)))), none, none] [] (hM (uM_place σ (upd (gM_place σ) k2 ((gM_st σ) k102)))) v h') ∧ (¬ ((gM_at σ) k5) ≤ ((gM_at σ) k4) → Go (d + 1) 120 77 [some (.ref 0), some (.int (x1)), some (.int (x2)), none, some (.int (((gM_st σ) k102)))] [] (hM (uM_place σ (upd (gM_place σ) k2 ((gM_st σ) k102)))) v h')))))))) :
    Go (d + 1) 120 34 [some (.ref 0), some (.int (x1)), some (.int (x2)), none, none] [] (hM σ) v h' := by
  refine Go.mv (pc' := 36) (L' := [some (.ref 0), some (.int (x1)), some (.int (x2)), none, none]) (S' := [.int (x1), .int (x2)]) (h1 := hM σ) 2 rfl ?_
  refine Go.cge rfl ⟨fun c1 => ?_, fun c1 => ?_⟩
  · replace g := g.1 c1
    refine Go.mv (pc' := 143) (L' := [some (.ref 0), some (.int (x1)), some (.int ((0 : Int32))), none, none]) (S' := []) (h1 := hM σ) 2 rfl ?_
    exact g
  · replace g := g.2 c1
    refine Go.mv (pc' := 42) (L' := [some (.ref 0), some (.int (x1)), some (.int (x2)), none, none]) (S' := [.int ((2 : Int32)), .int (x2), .ref 0]) (h1 := hM σ) 3 rfl ?_
    obtain ⟨k102, ek102, lk102, g⟩ := g
    have gc : Go d 119 0 [some (.ref 0), some (.int (x2)), some (.int ((2 : Int32)))] [] (hM σ) (some (.int (((gM_st σ) k102)))) (hM σ) := by
      refine Go.mv (pc' := 11) (L' := [some (.ref 0), some (.int (x2)), some (.int ((2 : Int32)))]) (S' := [.int ((((3 : Int32) + ((5 : Int32) * x2)) + (2 : Int32))), .ref 1]) (h1 := hM σ) 9 rfl ?_
      refine Go.iald rfl rfl (by decide) ⟨k102, ek102, lk102, ?_⟩
      exact Go.rt rfl rfl rfl rfl
    refine Go.ca (rv := some (.int (((gM_st σ) k102)))) (h1 := hM σ) (pc' := 45) (L' := [some (.ref 0), some (.int (x1)), some (.int (x2)), none, none]) (S' := []) (j := 119) (As := [.ref 0, .int (x2), .int ((2 : Int32))]) rfl rfl rfl rfl gc ?_
    refine Go.mv (pc' := 52) (L' := [some (.ref 0), some (.int (x1)), some (.int (x2)), some (.int (((gM_st σ) k102))), none]) (S' := [.int (((gM_st σ) k102)), .int (x2), .ref 11]) (h1 := hM σ) 5 rfl ?_
    obtain ⟨k2, ek2, lk2, g⟩ := g
    refine Go.iast rfl rfl (by decide) ⟨k2, ek2, lk2, ?_⟩
    refine Go.mv (pc' := 56) (L' := [some (.ref 0), some (.int (x1)), some (.int (x2)), some (.int (((gM_st σ) k102))), none]) (S' := [.int ((-4 : Int32)), .int (((gM_st σ) k102))]) (h1 := hM (uM_place σ (upd (gM_place σ) k2 ((gM_st σ) k102)))) 2 rfl ?_
    refine Go.ceq rfl ⟨fun c3 => ?_, fun c3 => ?_⟩
    · replace g := g.1 c3
      refine Go.mv (pc' := 34) (L' := [some (.ref 0), some (.int (x1)), some (.int ((x2 + (1 : Int32)))), some (.int (((gM_st σ) k102))), none]) (S' := []) (h1 := hM (uM_place σ (upd (gM_place σ) k2 ((gM_st σ) k102)))) 2 rfl ?_
      exact Go.wk (ab_le_s (ab_le_s (ab_le_s (ab_le_i (ab_le_s (ab_le_nil)))))) g
    · replace g := g.2 c3
      refine Go.mv (pc' := 64) (L' := [some (.ref 0), some (.int (x1)), some (.int (x2)), some (.int (((gM_st σ) k102))), none]) (S' := [.int (x2), .ref 10]) (h1 := hM (uM_place σ (upd (gM_place σ) k2 ((gM_st σ) k102)))) 3 rfl ?_
      obtain ⟨k4, ek4, lk4, g⟩ := g
      refine Go.iald rfl rfl (by decide) ⟨k4, ek4, lk4, ?_⟩
      refine Go.mv (pc' := 70) (L' := [some (.ref 0), some (.int (x1)), some (.int (x2)), some (.int (((gM_st σ) k102))), none]) (S' := [.int (((gM_st σ) k102)), .ref 10, .int (((gM_at σ) k4))]) (h1 := hM (uM_place σ (upd (gM_place σ) k2 ((gM_st σ) k102)))) 3 rfl ?_
      obtain ⟨k5, ek5, lk5, g⟩ := g
      refine Go.iald rfl rfl (by decide) ⟨k5, ek5, lk5, ?_⟩
      refine Go.cge rfl ⟨fun c6 => ?_, fun c6 => ?_⟩
      · replace g := g.1 c6
        refine Go.mv (pc' := 34) (L' := [some (.ref 0), some (.int (x1)), some (.int ((x2 + (1 : Int32)))), some (.int (((gM_st σ) k102))), none]) (S' := []) (h1 := hM (uM_place σ (upd (gM_place σ) k2 ((gM_st σ) k102)))) 2 rfl ?_
        exact Go.wk (ab_le_s (ab_le_s (ab_le_s (ab_le_i (ab_le_s (ab_le_nil)))))) g
      · replace g := g.2 c6
        refine Go.mv (pc' := 77) (L' := [some (.ref 0), some (.int (x1)), some (.int (x2)), some (.int (((gM_st σ) k102))), some (.int (((gM_st σ) k102)))]) (S' := []) (h1 := hM (uM_place σ (upd (gM_place σ) k2 ((gM_st σ) k102)))) 2 rfl ?_
        exact Go.wk (ab_le_s (ab_le_s (ab_le_s (ab_le_i (ab_le_s (ab_le_nil)))))) g
set_option maxRecDepth 100000 in
theorem b_X9_findsPlaces_77 {d : Nat} {v : Option Value} {h' : aH} {σ : SM} {x1 : Int32} {x2 : Int32} {x4 : Int32}
    (g : ∃ k1 : Nat, x4 = nI k1 ∧ k1 < 4 ∧ ((((gM_place σ) k1) = (-4 : Int32) → ∃ k3 : Nat, x4 = nI k3 ∧ k3 < 4 ∧ (∃ k4 : Nat, x2 = nI k4 ∧ k4 < 4 ∧ (Go (d + 1) 120 34 [some (.ref 0), some (.int (x1)), some (.int ((x2 + (1 : Int32)))), none, none] [] (hM (uM_place σ (upd (gM_place σ) k4 ((gM_place σ) k3)))) v h'))) ∧ (¬ ((gM_place σ) k1) = (-4 : Int32) → ∃ k5 : Nat, x2 = nI k5 ∧ k5 < 4 ∧ (∃ k6 : Nat, x4 = nI k6 ∧ k6 < 4 ∧ (∃ k7 : Nat, ((gM_place σ) k6) = nI k7 ∧ k7 < 4 ∧ ((((gM_at σ) k7) ≤ ((gM_at σ) k5) → ∃ k9 : Nat, x4 = nI k9 ∧ k9 < 4 ∧ (∃ k10 : Nat, x2 = nI k10 ∧ k10 < 4 ∧ (Go (d + 1) 120 34 [some (.ref 0), some (.int (x1)), some (.int ((x2 + (1 : Int32)))), none, none] [] (hM (uM_place σ (upd (gM_place σ) k10 ((gM_place σ) k9)))) v h'))) ∧ (¬ ((gM_at σ) k7) ≤ ((gM_at σ) k5) → ∃ k11 : Nat, x4 = nI k11 ∧ k11 < 4 ∧ (Go (d + 1) 120 77 [some (.ref 0), some (.int (x1)), some (.int (x2)), none, some (.int (((gM_place σ) k11)))] [] (hM σ) v h')))))))) :
    Go (d + 1) 120 77 [some (.ref 0), some (.int (x1)), some (.int (x2)), none, some (.int (x4))] [] (hM σ) v h' := by
  refine Go.mv (pc' := 83) (L' := [some (.ref 0), some (.int (x1)), some (.int (x2)), none, some (.int (x4))]) (S' := [.int (x4), .ref 11]) (h1 := hM σ) 3 rfl ?_
  obtain ⟨k1, ek1, lk1, g⟩ := g
  refine Go.iald rfl rfl (by decide) ⟨k1, ek1, lk1, ?_⟩
  refine Go.mv (pc' := 86) (L' := [some (.ref 0), some (.int (x1)), some (.int (x2)), none, some (.int (x4))]) (S' := [.int ((-4 : Int32)), .int (((gM_place σ) k1))]) (h1 := hM σ) 1 rfl ?_
  refine Go.ceq rfl ⟨fun c2 => ?_, fun c2 => ?_⟩
  · replace g := g.1 c2
    refine Go.mv (pc' := 133) (L' := [some (.ref 0), some (.int (x1)), some (.int (x2)), none, some (.int (x4))]) (S' := [.int (x4), .ref 11, .int (x2), .ref 11]) (h1 := hM σ) 6 rfl ?_
    obtain ⟨k3, ek3, lk3, g⟩ := g
    refine Go.iald rfl rfl (by decide) ⟨k3, ek3, lk3, ?_⟩
    obtain ⟨k4, ek4, lk4, g⟩ := g
    refine Go.iast rfl rfl (by decide) ⟨k4, ek4, lk4, ?_⟩
    refine Go.mv (pc' := 34) (L' := [some (.ref 0), some (.int (x1)), some (.int ((x2 + (1 : Int32)))), none, some (.int (x4))]) (S' := []) (h1 := hM (uM_place σ (upd (gM_place σ) k4 ((gM_place σ) k3)))) 2 rfl ?_
    exact Go.wk (ab_le_s (ab_le_s (ab_le_s (ab_le_s (ab_le_i (ab_le_nil)))))) g
  · replace g := g.2 c2
    refine Go.mv (pc' := 94) (L' := [some (.ref 0), some (.int (x1)), some (.int (x2)), none, some (.int (x4))]) (S' := [.int (x2), .ref 10]) (h1 := hM σ) 3 rfl ?_
    obtain ⟨k5, ek5, lk5, g⟩ := g
    refine Go.iald rfl rfl (by decide) ⟨k5, ek5, lk5, ?_⟩
    refine Go.mv (pc' := 105) (L' := [some (.ref 0), some (.int (x1)), some (.int (x2)), none, some (.int (x4))]) (S' := [.int (x4), .ref 11, .ref 10, .int (((gM_at σ) k5))]) (h1 := hM σ) 5 rfl ?_
    obtain ⟨k6, ek6, lk6, g⟩ := g
    refine Go.iald rfl rfl (by decide) ⟨k6, ek6, lk6, ?_⟩
    obtain ⟨k7, ek7, lk7, g⟩ := g
    refine Go.iald rfl rfl (by decide) ⟨k7, ek7, lk7, ?_⟩
    refine Go.cge rfl ⟨fun c8 => ?_, fun c8 => ?_⟩
    · replace g := g.1 c8
      refine Go.mv (pc' := 133) (L' := [some (.ref 0), some (.int (x1)), some (.int (x2)), none, some (.int (x4))]) (S' := [.int (x4), .ref 11, .int (x2), .ref 11]) (h1 := hM σ) 6 rfl ?_
      obtain ⟨k9, ek9, lk9, g⟩ := g
      refine Go.iald rfl rfl (by decide) ⟨k9, ek9, lk9, ?_⟩
      obtain ⟨k10, ek10, lk10, g⟩ := g
      refine Go.iast rfl rfl (by decide) ⟨k10, ek10, lk10, ?_⟩
      refine Go.mv (pc' := 34) (L' := [some (.ref 0), some (.int (x1)), some (.int ((x2 + (1 : Int32)))), none, some (.int (x4))]) (S' := []) (h1 := hM (uM_place σ (upd (gM_place σ) k10 ((gM_place σ) k9)))) 2 rfl ?_
      exact Go.wk (ab_le_s (ab_le_s (ab_le_s (ab_le_s (ab_le_i (ab_le_nil)))))) g
    · replace g := g.2 c8
      refine Go.mv (pc' := 116) (L' := [some (.ref 0), some (.int (x1)), some (.int (x2)), none, some (.int (x4))]) (S' := [.int (x4), .ref 11]) (h1 := hM σ) 3 rfl ?_
      obtain ⟨k11, ek11, lk11, g⟩ := g
      refine Go.iald rfl rfl (by decide) ⟨k11, ek11, lk11, ?_⟩
      refine Go.mv (pc' := 77) (L' := [some (.ref 0), some (.int (x1)), some (.int (x2)), none, some (.int (((gM_place σ) k11)))]) (S' := []) (h1 := hM σ) 2 rfl ?_
      exact g
set_option maxRecDepth 100000 in
theorem b_X9_findsPlaces_143 {d : Nat} {v : Option Value} {h' : aH} {σ : SM} {x1 : Int32} {x2 : Int32}
    (g : (x1 ≤ x2 → none = v ∧ hM σ = h') ∧ (¬ x1 ≤ x2 → ∃ k2 : Nat, x2 = nI k2 ∧ k2 < 4 ∧ (Go (d + 1) 120 157 [some (.ref 0), some (.int (x1)), some (.int (x2)), some (.int ((0 : Int32))), none] [] (hM (uM_rank σ (upd (gM_rank σ) k2 (0 : Int32)))) v h'))) :
    Go (d + 1) 120 143 [some (.ref 0), some (.int (x1)), some (.int (x2)), none, none] [] (hM σ) v h' := by
  refine Go.mv (pc' := 145) (L' := [some (.ref 0), some (.int (x1)), some (.int (x2)), none, none]) (S' := [.int (x1), .int (x2)]) (h1 := hM σ) 2 rfl ?_
  refine Go.cge rfl ⟨fun c1 => ?_, fun c1 => ?_⟩
  · replace g := g.1 c1
    exact Go.rt rfl rfl g.1 g.2
  · replace g := g.2 c1
    refine Go.mv (pc' := 154) (L' := [some (.ref 0), some (.int (x1)), some (.int (x2)), none, none]) (S' := [.int ((0 : Int32)), .int (x2), .ref 12]) (h1 := hM σ) 4 rfl ?_
    obtain ⟨k2, ek2, lk2, g⟩ := g
    refine Go.iast rfl rfl (by decide) ⟨k2, ek2, lk2, ?_⟩
    refine Go.mv (pc' := 157) (L' := [some (.ref 0), some (.int (x1)), some (.int (x2)), some (.int ((0 : Int32))), none]) (S' := []) (h1 := hM (uM_rank σ (upd (gM_rank σ) k2 (0 : Int32)))) 2 rfl ?_
    exact g
set_option maxRecDepth 100000 in
theorem b_X9_findsPlaces_157 {d : Nat} {v : Option Value} {h' : aH} {σ : SM} {x1 : Int32} {x2 : Int32} {x3 : Int32}
    (g : (x1 ≤ x3 → Go (d + 1) 120 143 [some (.ref 0), some (.int (x1)), some (.int ((x2 + (1 : Int32)))), none, none] [] (hM σ) v h') ∧ (¬ x1 ≤ x3 → ∃ k2 : Nat, x2 = nI k2 ∧ k2 < 4 ∧ (∃ k3 : Nat, x2 = nI k3 ∧ k3 < 4 ∧ (∃ k4 : Nat, x3 = nI k4 ∧ k4 < 4 ∧ ((¬ ((gM_place σ) k3) = ((gM_place σ) k4) → ∃ k6 : Nat, x2 = nI k6 ∧ k6 < 4 ∧ (Go (d + 1) 120 157 [some (.ref 0), some (.int (x1)), some (.int (x2)), some (.int ((x3 + (1 : Int32)))), none] [] (hM (uM_rank σ (upd (gM_rank σ) k6 (((gM_rank σ) k2) + (0 : Int32))))) v h')) ∧ (((gM_place σ) k3) = ((gM_place σ) k4) → ∃ k7 : Nat, x3 = nI k7 ∧ k7 < 4 ∧ (∃ k8 : Nat, x2 = nI k8 ∧ k8 < 4 ∧ (∃ k10 : Nat, x2 = nI k10 ∧ k10 < 4 ∧ (Go (d + 1) 120 157 [some (.ref 0), some (.int (x1)), some (.int (x2)), some (.int ((x3 + (1 : Int32)))), none] [] (hM (uM_rank σ (upd (gM_rank σ) k10 (((gM_rank σ) k2) + (if (¬ ((gM_at σ) k8) ≤ ((gM_at σ) k7)) then (1 : Int32) else 0))))) v h'))))))))) :
    Go (d + 1) 120 157 [some (.ref 0), some (.int (x1)), some (.int (x2)), some (.int (x3)), none] [] (hM σ) v h' := by
  refine Go.mv (pc' := 159) (L' := [some (.ref 0), some (.int (x1)), some (.int (x2)), some (.int (x3)), none]) (S' := [.int (x1), .int (x3)]) (h1 := hM σ) 2 rfl ?_
  refine Go.cge rfl ⟨fun c1 => ?_, fun c1 => ?_⟩
  · replace g := g.1 c1
    refine Go.mv (pc' := 143) (L' := [some (.ref 0), some (.int (x1)), some (.int ((x2 + (1 : Int32)))), some (.int (x3)), none]) (S' := []) (h1 := hM σ) 2 rfl ?_
    exact Go.wk (ab_le_s (ab_le_s (ab_le_s (ab_le_i (ab_le_s (ab_le_nil)))))) g
  · replace g := g.2 c1
    refine Go.mv (pc' := 168) (L' := [some (.ref 0), some (.int (x1)), some (.int (x2)), some (.int (x3)), none]) (S' := [.int (x2), .ref 12, .int (x2), .ref 12]) (h1 := hM σ) 4 rfl ?_
    obtain ⟨k2, ek2, lk2, g⟩ := g
    refine Go.iald rfl rfl (by decide) ⟨k2, ek2, lk2, ?_⟩
    refine Go.mv (pc' := 174) (L' := [some (.ref 0), some (.int (x1)), some (.int (x2)), some (.int (x3)), none]) (S' := [.int (x2), .ref 11, .int (((gM_rank σ) k2)), .int (x2), .ref 12]) (h1 := hM σ) 3 rfl ?_
    obtain ⟨k3, ek3, lk3, g⟩ := g
    refine Go.iald rfl rfl (by decide) ⟨k3, ek3, lk3, ?_⟩
    refine Go.mv (pc' := 180) (L' := [some (.ref 0), some (.int (x1)), some (.int (x2)), some (.int (x3)), none]) (S' := [.int (x3), .ref 11, .int (((gM_place σ) k3)), .int (((gM_rank σ) k2)), .int (x2), .ref 12]) (h1 := hM σ) 3 rfl ?_
    obtain ⟨k4, ek4, lk4, g⟩ := g
    refine Go.iald rfl rfl (by decide) ⟨k4, ek4, lk4, ?_⟩
    refine Go.cne rfl ⟨fun c5 => ?_, fun c5 => ?_⟩
    · replace g := g.1 c5
      refine Go.mv (pc' := 204) (L' := [some (.ref 0), some (.int (x1)), some (.int (x2)), some (.int (x3)), none]) (S' := [.int ((0 : Int32)), .int (((gM_rank σ) k2)), .int (x2), .ref 12]) (h1 := hM σ) 1 rfl ?_
      refine Go.ca (rv := some (.int ((0 : Int32)))) (h1 := hM σ) (pc' := 207) (L' := [some (.ref 0), some (.int (x1)), some (.int (x2)), some (.int (x3)), none]) (S' := [.int (((gM_rank σ) k2)), .int (x2), .ref 12]) (j := 103) (As := [.int ((0 : Int32))]) rfl rfl rfl rfl (c_X9_flag (x := (0 : Int32))) ?_
      refine Go.mv (pc' := 208) (L' := [some (.ref 0), some (.int (x1)), some (.int (x2)), some (.int (x3)), none]) (S' := [.int ((((gM_rank σ) k2) + (0 : Int32))), .int (x2), .ref 12]) (h1 := hM σ) 1 rfl ?_
      obtain ⟨k6, ek6, lk6, g⟩ := g
      refine Go.iast rfl rfl (by decide) ⟨k6, ek6, lk6, ?_⟩
      refine Go.mv (pc' := 157) (L' := [some (.ref 0), some (.int (x1)), some (.int (x2)), some (.int ((x3 + (1 : Int32)))), none]) (S' := []) (h1 := hM (uM_rank σ (upd (gM_rank σ) k6 (((gM_rank σ) k2) + (0 : Int32))))) 2 rfl ?_
      exact g
    · replace g := g.2 c5
      refine Go.mv (pc' := 189) (L' := [some (.ref 0), some (.int (x1)), some (.int (x2)), some (.int (x3)), none]) (S' := [.int (x3), .ref 10, .int (((gM_rank σ) k2)), .int (x2), .ref 12]) (h1 := hM σ) 3 rfl ?_
      obtain ⟨k7, ek7, lk7, g⟩ := g
      refine Go.iald rfl rfl (by decide) ⟨k7, ek7, lk7, ?_⟩
      refine Go.mv (pc' := 195) (L' := [some (.ref 0), some (.int (x1)), some (.int (x2)), some (.int (x3)), none]) (S' := [.int (x2), .ref 10, .int (((gM_at σ) k7)), .int (((gM_rank σ) k2)), .int (x2), .ref 12]) (h1 := hM σ) 3 rfl ?_
      obtain ⟨k8, ek8, lk8, g⟩ := g
      refine Go.iald rfl rfl (by decide) ⟨k8, ek8, lk8, ?_⟩
      suffices gb : Go (d + 1) 120 204 [some (.ref 0), some (.int (x1)), some (.int (x2)), some (.int (x3)), none] [.int (if (¬ ((gM_at σ) k8) ≤ ((gM_at σ) k7)) then (1 : Int32) else 0), .int (((gM_rank σ) k2)), .int (x2), .ref 12] (hM σ) v h' by
        refine Go.cge rfl ⟨fun c9 => ?_, fun c9 => ?_⟩
        · rw [if_neg (fun z => z c9)] at gb
          refine Go.mv (pc' := 204) (L' := [some (.ref 0), some (.int (x1)), some (.int (x2)), some (.int (x3)), none]) (S' := [.int ((0 : Int32)), .int (((gM_rank σ) k2)), .int (x2), .ref 12]) (h1 := hM σ) 1 rfl ?_
          exact gb
        · rw [if_pos c9] at gb
          refine Go.mv (pc' := 204) (L' := [some (.ref 0), some (.int (x1)), some (.int (x2)), some (.int (x3)), none]) (S' := [.int ((1 : Int32)), .int (((gM_rank σ) k2)), .int (x2), .ref 12]) (h1 := hM σ) 2 rfl ?_
          exact gb
      refine Go.ca (rv := some (.int (if (¬ ((gM_at σ) k8) ≤ ((gM_at σ) k7)) then (1 : Int32) else 0))) (h1 := hM σ) (pc' := 207) (L' := [some (.ref 0), some (.int (x1)), some (.int (x2)), some (.int (x3)), none]) (S' := [.int (((gM_rank σ) k2)), .int (x2), .ref 12]) (j := 103) (As := [.int (if (¬ ((gM_at σ) k8) ≤ ((gM_at σ) k7)) then (1 : Int32) else 0)]) rfl rfl rfl rfl (c_X9_flag_b (P := (¬ ((gM_at σ) k8) ≤ ((gM_at σ) k7)))) ?_
      refine Go.mv (pc' := 208) (L' := [some (.ref 0), some (.int (x1)), some (.int (x2)), some (.int (x3)), none]) (S' := [.int ((((gM_rank σ) k2) + (if (¬ ((gM_at σ) k8) ≤ ((gM_at σ) k7)) then (1 : Int32) else 0))), .int (x2), .ref 12]) (h1 := hM σ) 1 rfl ?_
      obtain ⟨k10, ek10, lk10, g⟩ := g
      refine Go.iast rfl rfl (by decide) ⟨k10, ek10, lk10, ?_⟩
      refine Go.mv (pc' := 157) (L' := [some (.ref 0), some (.int (x1)), some (.int (x2)), some (.int ((x3 + (1 : Int32)))), none]) (S' := []) (h1 := hM (uM_rank σ (upd (gM_rank σ) k10 (((gM_rank σ) k2) + (if (¬ ((gM_at σ) k8) ≤ ((gM_at σ) k7)) then (1 : Int32) else 0))))) 2 rfl ?_
      exact g
