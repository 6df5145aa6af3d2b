set_option maxRecDepth 100000 in
theorem b_X8_feed_0 {d : Nat} {v : Option Value} {h' : aH} {σ : SX} {c : Int32}
    (g : (c < 0 → (some (.int ((-1 : Int32))) : Option Value) = v ∧ hX σ = h') ∧ (¬ c < 0 → (c ≤ (127 : Int32) → ((gX_tN σ) < (200 : Int32) → ∃ k4 : Nat, (gX_tN σ) = nI k4 ∧ k4 < 200 ∧ ((some (.int (((gX_tN σ) + (1 : Int32)))) : Option Value) = v ∧ hX (uX_tB (uX_tN σ ((gX_tN σ) + (1 : Int32))) (upd (gX_tB σ) k4 (vp_nar .byte ((c).toInt8.toInt32)))) = h')) ∧ (¬ (gX_tN σ) < (200 : Int32) → (some (.int ((-3 : Int32))) : Option Value) = v ∧ hX σ = h')) ∧ (¬ c ≤ (127 : Int32) → (some (.int ((-1 : Int32))) : Option Value) = v ∧ hX σ = h'))) :
    Go (d) 56 0 [some (.ref 0), some (.int (c))] [] (hX σ) v h' := by
  refine Go.mv (pc' := 1) (L' := [some (.ref 0), some (.int (c))]) (S' := [.int (c)]) (h1 := hX σ) 1 rfl ?_
  refine Go.zlt rfl ⟨fun c1 => ?_, fun c1 => ?_⟩
  · replace g := g.1 c1
    refine Go.mv (pc' := 11) (L' := [some (.ref 0), some (.int (c))]) (S' := [.int ((-1 : Int32))]) (h1 := hX σ) 1 rfl ?_
    exact Go.rt rfl rfl g.1 g.2
  · replace g := g.2 c1
    refine Go.mv (pc' := 7) (L' := [some (.ref 0), some (.int (c))]) (S' := [.int ((127 : Int32)), .int (c)]) (h1 := hX σ) 2 rfl ?_
    refine Go.cle rfl ⟨fun c2 => ?_, fun c2 => ?_⟩
    · replace g := g.1 c2
      refine Go.mv (pc' := 22) (L' := [some (.ref 0), some (.int (c))]) (S' := [.int ((200 : Int32)), .int ((gX_tN σ))]) (h1 := hX σ) 4 rfl ?_
      refine Go.clt rfl ⟨fun c3 => ?_, fun c3 => ?_⟩
      · replace g := g.1 c3
        refine Go.mv (pc' := 44) (L' := [some (.ref 0), some (.int (c))]) (S' := [.int ((c).toInt8.toInt32), .int ((gX_tN σ)), .ref 2]) (h1 := hX σ) 8 rfl ?_
        obtain ⟨k4, ek4, lk4, g⟩ := g
        refine Go.bast rfl rfl (by decide) ⟨k4, ek4, lk4, ?_⟩
        refine Go.mv (pc' := 65) (L' := [some (.ref 0), some (.int (c))]) (S' := [.int (((gX_tN σ) + (1 : Int32)))]) (h1 := hX (uX_tB (uX_tN σ ((gX_tN σ) + (1 : Int32))) (upd (gX_tB σ) k4 (vp_nar .byte ((c).toInt8.toInt32))))) 10 rfl ?_
        exact Go.rt rfl rfl g.1 g.2
      · replace g := g.2 c3
        refine Go.mv (pc' := 27) (L' := [some (.ref 0), some (.int (c))]) (S' := [.int ((-3 : Int32))]) (h1 := hX σ) 1 rfl ?_
        exact Go.rt rfl rfl g.1 g.2
    · replace g := g.2 c2
      refine Go.mv (pc' := 11) (L' := [some (.ref 0), some (.int (c))]) (S' := [.int ((-1 : Int32))]) (h1 := hX σ) 1 rfl ?_
      exact Go.rt rfl rfl g.1 g.2
set_option maxRecDepth 100000 in
theorem b_X9_feed_0 {d : Nat} {v : Option Value} {h' : aH} {σ : SM} {c : Int32}
    (g : ∃ (r1 : Int32) (σ1 : SM), Go d 102 0 [some (.long ((c).toInt64)), none, some (.long ((0 : Int64))), none, some (.long ((Int64.ofNat 127))), none] [] (hM σ) (some (.int r1)) (hM σ1) ∧ ((¬ r1 = 0 → (¬ (gM_taped σ1) = (200 : Int32) → ∃ k4 : Nat, (gM_taped σ1) = nI k4 ∧ k4 < 200 ∧ ((some (.int (((gM_taped σ1) + (1 : Int32)))) : Option Value) = v ∧ hM (uM_taped (uM_tape σ1 (upd (gM_tape σ1) k4 c)) ((gM_taped σ1) + (1 : Int32))) = h')) ∧ ((gM_taped σ1) = (200 : Int32) → (some (.int ((-3 : Int32))) : Option Value) = v ∧ hM σ1 = h')) ∧ (r1 = 0 → (some (.int ((-1 : Int32))) : Option Value) = v ∧ hM σ1 = h'))) :
    Go (d + 1) 105 0 [some (.ref 0), some (.int (c))] [] (hM σ) v h' := by
  refine Go.mv (pc' := 6) (L' := [some (.ref 0), some (.int (c))]) (S' := [.long ((Int64.ofNat 127)), .long ((0 : Int64)), .long ((c).toInt64)]) (h1 := hM σ) 4 rfl ?_
  obtain ⟨r1, σ1, gc, g⟩ := g
  refine Go.ca (rv := some (.int r1)) (h1 := hM σ1) (pc' := 9) (L' := [some (.ref 0), some (.int (c))]) (S' := []) (j := 102) (As := [.long ((c).toInt64), .long ((0 : Int64)), .long ((Int64.ofNat 127))]) rfl rfl rfl rfl gc ?_
  refine Go.zne rfl ⟨fun c2 => ?_, fun c2 => ?_⟩
  · replace g := g.1 c2
    refine Go.mv (pc' := 21) (L' := [some (.ref 0), some (.int (c))]) (S' := [.int ((200 : Int32)), .int ((gM_taped σ1))]) (h1 := hM σ1) 3 rfl ?_
    refine Go.cne rfl ⟨fun c3 => ?_, fun c3 => ?_⟩
    · replace g := g.1 c3
      refine Go.mv (pc' := 36) (L' := [some (.ref 0), some (.int (c))]) (S' := [.int (c), .int ((gM_taped σ1)), .ref 5]) (h1 := hM σ1) 5 rfl ?_
      obtain ⟨k4, ek4, lk4, g⟩ := g
      refine Go.iast rfl rfl (by decide) ⟨k4, ek4, lk4, ?_⟩
      refine Go.mv (pc' := 51) (L' := [some (.ref 0), some (.int (c))]) (S' := [.int (((gM_taped σ1) + (1 : Int32)))]) (h1 := hM (uM_taped (uM_tape σ1 (upd (gM_tape σ1) k4 c)) ((gM_taped σ1) + (1 : Int32)))) 8 rfl ?_
      exact Go.rt rfl rfl g.1 g.2
    · replace g := g.2 c3
      refine Go.mv (pc' := 26) (L' := [some (.ref 0), some (.int (c))]) (S' := [.int ((-3 : Int32))]) (h1 := hM σ1) 1 rfl ?_
      exact Go.rt rfl rfl g.1 g.2
  · replace g := g.2 c2
    refine Go.mv (pc' := 13) (L' := [some (.ref 0), some (.int (c))]) (S' := [.int ((-1 : Int32))]) (h1 := hM σ1) 1 rfl ?_
    exact Go.rt rfl rfl g.1 g.2
