/-! rules for making cells; calls that make cells -/
section CTOR
variable {d mi pc : Nat} {L : aL} {S R : List Value} {h h' : aH} {v : Option Value}
theorem Go.al {en : aE} {pc' : Nat} {L' : aL} {S' : List Value} {x : va_E} (hl : ab_look (ab_mt mi).2 pc = some en) (hs : ab_stp ab_nf (ab_mt mi).1 en pc L S h = some (.inr (.inl ((pc', L', S'), x)))) (g : Go d mi pc' L' (.ref h.length :: S') (h ++ [x]) v h') : Go d mi pc L S h v h' := by
  obtain ⟨n, hn⟩ := g
  exact ⟨n + 1, by rw [ab_rn, hl]; simp only [hs]; exact hn⟩
theorem Go.cg {en : aE} {pc' j : Nat} {L' : aL} {S' As : List Value} {rv : Option Value} {h1 : aH} (hl : ab_look (ab_mt mi).2 pc = some en) (hs : ab_stp ab_nf (ab_mt mi).1 en pc L S h = some (.inr (.inr (.inr ((pc', L', S'), j, As))))) (hn : Nat.ble (ab_slots As).length (ab_nf j).2.2 = true) (ho : (ab_outL h.length L' && S'.all (ab_out h.length)) = true)
    (gc : Go d j 0 (ab_ent (ab_nf j).2.2 As) [] h rv h1) (g : Go (d + 1) mi pc' L' (rv.toList ++ S') h1 v h') : Go (d + 1) mi pc L S h v h' := by
  obtain ⟨n1, g1⟩ := gc
  obtain ⟨n2, g2⟩ := g
  refine ⟨n1 + n2 + 1, ?_⟩
  rw [ab_rn, hl]
  simp only [hs, hn]
  have e1 := ab_fuels g1 n2
  have e2 := ab_fuels g2 n1
  rw [Nat.add_comm n2 n1] at e2
  show (match ab_rn ab_nf ab_mt (n1 + n2) d j 0 (ab_ent (ab_nf j).2.2 As) [] h with
    | none => none
    | some (v, h') => _) = _
  rw [e1]
  simp only [ho]
  rw [Bool.or_true]
  exact e2
end CTOR
