/-! a call of the law: one world is called, the other kept -/
set_option maxHeartbeats 4000000 in
theorem lw_cv {p : Program} {l : Launch} {e : Env} {s : State} {m : MethodId} {args : Array Value} {below : List Frame} {meth : Method} {c : Code} {H : Heap} {locs : List Loc} {cells slots : Nat} {Q : State → Prop} {D : va_G} {cA : Nat → ClassId} {ad : Nat → Nat} {A0 : Nat → Prop} {h h1 : aH} {wr : va_W} {ls : Array Slot} {v : Int32} (hck : ab_Ck l) (j index pl pc : Nat) (As rest : List Value)
    (hx : p.tables.exec = Jvm.exec) (hb : c.code = code) (hml : c.maxLocals = 4) (hown : s.vm.findClass RL = some m.cls) (hts : ∀ w ∈ ab_G, w.before args s = true) (hj : j < ab_N) (hst0 : (ab_y j).2.2.2.2.1 = false) (hni : (ab_y j).1.name ≠ "<init>") (hc9 : ¬ (ab_nf j).2.1 = 90) (hlk : ab_wd pl (.methodLink RL index (ab_y j).1) = true) (hmap : As.map (ab_v ad) = As) (hn : As.length = (ab_nf j).1) (hsl : (ab_slots (.ref 0 :: As)).length ≤ (ab_nf j).2.2)
    (g : Go 14 j 0 (ab_ent (ab_nf j).2.2 (.ref 0 :: As)) [] h (some (.int v)) h1) (hlen : h1.length = h.length) (hhs : ab_hs h1 = ab_hs h) (hobj : ∃ fs, h[0]? = some (.inr ((ab_nf j).2.1, fs))) (En : ab_En D cA ad A0 s) (hP : va_P D vwCl (ab_ws cA ad h) H) (hD : va_D A0 (ab_ws cA ad h)) (hS : va_S A0 s.heap H locs) (hA : ∀ q, s.heap.size ≤ q → A0 q) (hPr : va_P D vwCl wr H) (hap : tw_ap (ab_ws cA ad h) wr) (hls : ls.size = 4) (hrest : (rest.map fun v => v.category).sum ≤ 8) (hcap : cells ≤ 600000 ∧ slots ≤ 7302250) (hdg : decode code pc = .ok (.invokevirtual index, 3))
    (kk : ∀ (H1 : Heap) (locs1 : List Loc), va_P D vwCl (ab_ws cA ad h1) H1 → va_D A0 (ab_ws cA ad h1) → tw_ap (ab_ws cA ad h1) wr → va_P D vwCl wr H1 → va_S A0 s.heap H1 locs1 → W p l e room_1 s m args below meth c H1 locs1 cells slots Q (F0 m (pc + 3) ls (.int v :: rest))) :
    W p l e room_1 s m args below meth c H locs cells slots Q (F0 m pc ls (As.reverse ++ .ref (ad 0) :: rest)) := by
  obtain ⟨m1, m2, m3, m4, m5, m6, m7, m8, m9, m10⟩ := ab_meth hj
  rw [hst0] at m2
  have hMet := ab_met (l := l) hck (D := D) (cA := cA) (sz := H.size) (ad := ad) hj hsl g
  have hFc := tw_free hD hS hA
  have hcls : vwCl[(ab_nf j).2.1]?.map (fun r => r.1) = some (ab_y j).1.cls := by
    rcases m10 with z | z
    · rw [hst0] at z; cases z
    · rw [if_neg hc9] at z; exact z
  have hsel : Jvm.Cond.selects (ab_y j).1.cls (ab_y j).1 (ab_y j).1 ∈ ab_G := by
    rcases m3 with z | z | z
    · rw [hst0] at z; cases z
    · exact absurd z hni
    · exact z
  have hrv : ∃ cellB : Cell, H[ad 0]? = some cellB ∧ cellB.vm.isStatics = false ∧ s.vm.findClass (ab_y j).1.cls = some cellB.cls := by
    obtain ⟨fs, g4⟩ := hobj
    obtain ⟨q, hq, -⟩ := hP 0 _ (ab_ws_at g4)
    have hq : vwCl[(ab_nf j).2.1]? = some q := hq
    rw [hq] at hcls
    have hcls : q.1 = (ab_y j).1.cls := Option.some.inj hcls
    rw [← hcls]
    exact va_recv En.1 hP hq (ab_ws_at g4)
  have e1 : h1.length - h.length = 0 := by omega
  have e2 : ab_hs h1 - ab_hs h = 0 := by omega
  rw [e1, e2] at hMet
  have hrun := va_runV (p := p) (e := e) (R := room_1) (below := below) (meth := meth) (H := H) (locs := locs) (cells := cells) (slots := slots) (As := As) (rest := rest) (b := ad 0) (C := (ab_y j).1.cls) (n := (ab_nf j).1) (ret := (ab_y j).2.2.2.1) (bytes := (ab_y j).2.1) (maxL := (ab_y j).2.2.1) (g := F0 m pc ls (As.reverse ++ .ref (ad 0) :: rest)) ⟨hx, hb, hml, hown, hts⟩ hMet (cwV (ab_nf j).1 hts (ab_GV hj (ab_wd_mem hlk).1 m2 hsel m4) rfl rfl rfl ⟨rfl, m6⟩ ⟨Nat.le_of_ble_eq_true rfl, by show _ ≤ 84000; simp only [ab_rm]; omega⟩) ⟨ab_Pre.blind, hrv, fun U hU hW => ⟨by rw [List.map_cons, hmap]; rfl, by rw [hU], by rw [hU]; exact hP, va_K.moved hW.alike En.1, hD.weaken (fun _ _ _ _ => trivial), by rw [hU]; exact ((En.2.1.kept hS.2.1).narrow hFc).moved hW.alike, ab_Nn.warm hW En.2.2⟩⟩ rfl hn hls rfl (by show 2 * 0 + _ ≤ 8; omega) hdg ⟨hcap.1, hcap.2⟩
  intro T hT X
  obtain ⟨vv, st₀, t, T', Lc, g0, X', gL, e3, e4, ⟨⟨ad1, ⟨b1, b2⟩, hvv, hP1, hD1⟩, hF1⟩, st⟩ := hrun T hT X
  cases hvv
  have had := b2 hlen
  rw [had] at hP1 hD1 st
  have hz1 := hF1.1
  have hk1 := hF1.2
  rw [g0] at hz1 hk1
  rw [← e3] at hz1 hk1 hP1
  obtain ⟨w1, w2, w3⟩ := tw_step (A0 := A0) hPr hap hk1 hFc hD1
  have hS1 : va_S A0 s.heap T'.heap (locs ++ Lc) := by
    refine ⟨Nat.le_trans hS.1 hz1, fun q h1 h2 => ?_, fun q hq => ?_⟩
    · rw [hk1 q (Nat.lt_of_lt_of_le h1 hS.1) (fun z => h2 (hFc q z))]
      exact hS.2.1 q h1 h2
    · rcases List.mem_append.mp hq with z | z
      · exact hS.2.2 q z
      · exact hFc _ (gL q z)
  obtain ⟨t2, a1, a2⟩ := kk T'.heap (locs ++ Lc) hP1 w3 w2 w1 hS1 T' rfl X'
  exact ⟨t2, st t2 a1, a2⟩
