/-! a constructor's call of the law: one world grows, the other is kept -/
theorem tw_new {A : Nat → Prop} {D : va_G} {cl : List vw_C} {ws : va_W} {x : Nat × va_E} {H : Heap} (hP : va_P D cl (ws ++ [x]) H) (hD : va_D A (ws ++ [x])) : va_P D cl ws H ∧ va_P D cl [x] H ∧ va_D A ws ∧ va_D A [x] ∧ tw_ap [x] ws := by
  have l1 : ∀ (k : Nat) (q : Nat × va_E), ws[k]? = some q → (ws ++ [x])[k]? = some q := by
    intro k q h
    rw [List.getElem?_append_left (List.getElem?_eq_some_iff.mp h).1]
    exact h
  have l2 : ∀ (k : Nat) (q : Nat × va_E), [x][k]? = some q → q = x ∧ (ws ++ [x])[ws.length]? = some q := by
    intro k q h
    match k, h with
    | 0, h =>
      cases h
      exact ⟨rfl, by simp⟩
    | k + 1, h => cases h
  refine ⟨fun k q h => hP k q (l1 k q h), fun k q h => hP _ q (l2 k q h).2, ⟨fun i j p q h1 h2 h3 => hD.1 i j p q (l1 i p h1) (l1 j q h2) h3, fun k q h => hD.2 k q (l1 k q h)⟩, ⟨fun i j p q h1 h2 h3 => ?_, fun k q h => hD.2 _ q (l2 k q h).2⟩, ?_⟩
  · have z1 : i < 1 := (List.getElem?_eq_some_iff.mp h1).1
    have z2 : j < 1 := (List.getElem?_eq_some_iff.mp h2).1
    omega
  · intro i j p q h1 h2 h3
    have z := hD.1 _ _ p q (l2 i p h1).2 (l1 j q h2) h3
    have := (List.getElem?_eq_some_iff.mp h2).1
    omega
set_option maxHeartbeats 4000000 in
theorem lw_ci {p : Program} {l : Launch} {e : Env} {s : State} {m : MethodId} {args : Array Value} {below : List Frame} {meth : Method} {c : Code} {H : Heap} {locs : List Loc} {cells slots : Nat} {Q : State → Prop} {D : va_G} {cA : Nat → ClassId} {ad : Nat → Nat} {A0 : Nat → Prop} {h h1 : aH} {wr : va_W} {ls : Array Slot} (hck : ab_Ck l) (j index pl pc mc ms : Nat) (rest : List Value)
    (hx : p.tables.exec = Jvm.exec) (hb : c.code = code) (hml : c.maxLocals = 4) (hown : s.vm.findClass RL = some m.cls) (hts : ∀ w ∈ ab_G, w.before args s = true) (hj : j < ab_N) (hst0 : (ab_y j).2.2.2.2.1 = false) (hni : (ab_y j).1.name = "<init>") (hrt : (ab_y j).2.2.2.1 = none) (hlk : ab_wd pl (.methodLink RL index (ab_y j).1) = true) (hn : 0 = (ab_nf j).1) (hsl : (ab_slots [.ref 0]).length ≤ (ab_nf j).2.2)
    (g : Go 14 j 0 (ab_ent (ab_nf j).2.2 [.ref 0]) [] h none h1) (hlen : h1.length = h.length + mc) (hhs : ab_hs h1 = ab_hs h + ms) (En : ab_En D cA ad A0 s) (hP : va_P D vwCl (ab_ws cA ad h) H) (hD : va_D A0 (ab_ws cA ad h)) (hS : va_S A0 s.heap H locs) (hA : ∀ q, s.heap.size ≤ q → A0 q) (hPr : va_P D vwCl wr H) (hap : tw_ap (ab_ws cA ad h) wr) (hls : ls.size = 4) (hrest : (rest.map fun v => v.category).sum ≤ 8) (hcap : cells + mc ≤ 600000 ∧ slots + ms ≤ 7302250) (hdg : decode code pc = .ok (.invokespecial index, 3))
    (kk : ∀ (ad1 : Nat → Nat) (H1 : Heap) (locs1 : List Loc), (∀ k, k < h.length ∨ 900 ≤ k → ad1 k = ad k) → va_P D vwCl (ab_ws cA ad1 h1) H1 → va_D A0 (ab_ws cA ad1 h1) → tw_ap (ab_ws cA ad1 h1) wr → va_P D vwCl wr H1 → va_S A0 s.heap H1 locs1 → W p l e room_1 s m args below meth c H1 locs1 (cells + mc) (slots + ms) Q (F0 m (pc + 3) ls rest)) :
    W p l e room_1 s m args below meth c H locs cells slots Q (F0 m pc ls (.ref (ad 0) :: rest)) := by
  obtain ⟨m1, m2, m3, m4, m5, m6, m7, m8, m9, m10⟩ := ab_meth hj
  rw [hst0] at m2
  have hMet := ab_met (l := l) hck (D := D) (cA := cA) (sz := H.size) (ad := ad) hj hsl g
  have hFc := tw_free hD hS hA
  have e1 : h1.length - h.length = mc := by omega
  have e2 : ab_hs h1 - ab_hs h = ms := by omega
  rw [e1, e2] at hMet
  have hrun := va_runI (p := p) (e := e) (R := room_1) (below := below) (meth := meth) (H := H) (locs := locs) (cells := cells) (slots := slots) (As := []) (rest := rest) (b := ad 0) (n := (ab_nf j).1) (bytes := (ab_y j).2.1) (maxL := (ab_y j).2.2.1) (g := F0 m pc ls (.ref (ad 0) :: rest)) ⟨hx, hb, hml, hown, hts⟩ hMet (cwI (ab_nf j).1 hts (ab_GG hj) (by rw [ab_wy, hrt]) rfl rfl (hts _ m4) (hts _ (ab_wd_mem hlk).1) (hts _ m2) hni m6 ⟨Nat.le_of_ble_eq_true rfl, by show _ ≤ 84000; simp only [ab_rm]; omega⟩) ⟨ab_Pre.blind, fun U hU hW => ⟨rfl, by rw [hU], by rw [hU]; exact hP, va_K.moved hW.alike En.1, hD.weaken (fun _ _ _ _ => trivial), by rw [hU]; exact ((En.2.1.kept hS.2.1).narrow hFc).moved hW.alike, ab_Nn.warm hW En.2.2⟩⟩ rfl hn hls rfl (by show 2 * 0 + _ ≤ 8; omega) hdg ⟨hcap.1, hcap.2⟩
  intro T hT X
  obtain ⟨vv, st₀, t, T', Lc, g0, X', gL, e3, e4, ⟨⟨ad1, ⟨b1, b2⟩, hvv, hP1, hD1⟩, hF1⟩, st⟩ := hrun T hT X
  cases hvv
  have hz1 := hF1.1
  have hk1 := hF1.2
  rw [g0] at hz1 hk1
  rw [← e3] at hz1 hk1 hP1
  obtain ⟨w1, w2, w3⟩ := tw_step (A0 := A0) hPr hap hk1 hFc hD1
  have hS1 : va_S A0 s.heap T'.heap (locs ++ Lc) := by
    refine ⟨Nat.le_trans hS.1 hz1, fun q h1 h2 => ?_, fun q hq => ?_⟩
    · rw [hk1 q (Nat.lt_of_lt_of_le h1 hS.1) (fun z => h2 (hFc q z))]
      exact hS.2.1 q h1 h2
    · rcases List.mem_append.mp hq with z | z
      · exact hS.2.2 q z
      · exact hFc _ (gL q z)
  obtain ⟨t2, a1, a2⟩ := kk ad1 T'.heap (locs ++ Lc) b1 hP1 w3 w2 w1 hS1 T' rfl X'
  exact ⟨t2, st t2 a1, a2⟩
