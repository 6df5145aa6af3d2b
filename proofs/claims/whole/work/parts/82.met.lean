/-! a call's contract out of its Go -/
set_option maxHeartbeats 4000000 in
theorem ab_met {l : Launch} (hck : ab_Ck l) {D : va_G} {cA : Nat → ClassId} {d j sz : Nat} {As : List Value} {h h1 : aH} {v1 : Option Value} {ad : Nat → Nat} (hj : j < ab_N) (hsl : (ab_slots As).length ≤ (ab_nf j).2.2) (g : Go d j 0 (ab_ent (ab_nf j).2.2 As) [] h v1 h1) : Met l (ab_y j).1 (ab_wy j) (ab_rm d (h1.length - h.length) (ab_hs h1 - ab_hs h)) (ab_Pre D cA ad h sz As) (ab_Pst D cA ad h.length (va_A (ab_ws cA ad h) sz) v1 h1) (h1.length - h.length) (ab_hs h1 - ab_hs h) (va_A (ab_ws cA ad h) sz) := by
  obtain ⟨n, hc⟩ := g
  have m1 := ab_mono _ _ _ _ _ _ _ _ _ hc
  obtain ⟨y1, y2, y3, y4, y5, y6, y7, y8, y9, y10⟩ := ab_meth hj
  refine Met.ofW (cc := (ab_y j).2.1) (maxL := (ab_y j).2.2.1) (ret := (ab_y j).2.2.2.1) y5 rfl ?_
  intro p2 e2 s2 m2 args2 below2 meth2 c2 s₂ B hml2 hv2
  obtain ⟨rfl, hsz, hP2, hK2, hD2, hC2, hN2⟩ := hv2
  have hts2 := atoms_spec (ws := ab_wy j) B.pre
  have hF2 : ab_Fr p2 s2 m2 (As.map (ab_v ad)).toArray meth2 c2 j := ⟨B.exec, B.bytes, B.returns, hml2, findClass_of_methodNamed B.named, fun w hw => hts2 w (List.mem_cons_of_mem _ hw), B.notSynchronized, fun z => ((name_of_methodNamed B.named B.method).1).trans z⟩
  have hD3 := hD2.self (sz := s2.heap.size)
  rw [← hsz] at hC2 ⊢
  rw [lg_entry_eq]
  rw [y8] at hsl hc
  have := ab_main hck n d j 0 _ [] h v1 h1 hc hj (below := below2) (e := e2) (cells := 0) (slots := 0) (mc := h1.length - h.length) (ms := ab_hs h1 - ab_hs h) (n0 := h.length) (ad0 := ad) (locs := []) hF2 ⟨hK2, hC2, hN2⟩ ⟨hP2, hD3, va_S.rf⟩ (fun q hq => Or.inr hq) (ab_ent_L hsl) (by simp [ab_ent]; omega) (by omega) (by omega) (Nat.le_refl _) (fun _ _ => rfl) (fun _ => rfl)
  exact this
