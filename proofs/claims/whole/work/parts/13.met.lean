/-! a method's contract out of its run on the small machine -/
theorem ab_C.moved {ad : Nat → Nat} {A : Nat → Prop} {u U : State} {H : Heap} (hvm : u.vm.Alike U.vm) (h : ab_C ad A u H) : ab_C ad A U H :=
  ⟨h.1.moved hvm, va_T.moved hvm h.2.1, va_Z.moved hvm h.2.2.1, va_Z.moved hvm h.2.2.2.1, va_Zq.moved hvm h.2.2.2.2⟩
theorem ab_C.kept {ad : Nat → Nat} {A : Nat → Prop} {U : State} {H H1 : Heap} (h : ab_C ad A U H) (hq : ∀ a : Nat, a < H.size → ¬ A a → H1[a]? = H[a]?) : ab_C ad A U H1 :=
  ⟨h.1.kept hq, va_T.kept h.2.1 hq, va_Z.kept h.2.2.1 hq, va_Z.kept h.2.2.2.1 hq, va_Zq.kept h.2.2.2.2 hq⟩
theorem ab_C.narrow {ad : Nat → Nat} {A B : Nat → Prop} {U : State} {H : Heap} (h : ab_C ad A U H) (hAB : ∀ q, B q → A q) : ab_C ad B U H :=
  ⟨h.1.narrow hAB, va_T.narrow h.2.1 hAB, va_Z.narrow h.2.2.1 hAB, va_Z.narrow h.2.2.2.1 hAB, va_Zq.narrow h.2.2.2.2 hAB⟩
theorem ab_C.congr {ad ad' : Nat → Nat} {A : Nat → Prop} {U : State} {H : Heap} (ho : ∀ k, 900 ≤ k → ad' k = ad k) (h : ab_C ad A U H) : ab_C ad' A U H := by
  have e1 : (fun i => ad' (900 + i)) = fun i => ad (900 + i) := funext fun i => ho _ (by omega)
  have e2 : (fun i => ad' (920 + i)) = fun i => ad (920 + i) := funext fun i => ho _ (by omega)
  unfold ab_C
  rw [e1, e2, ho 950 (by omega)]
  exact h
theorem ab_Nn.congr {ad ad' : Nat → Nat} {U : State} (ho : ∀ k, 900 ≤ k → ad' k = ad k) (h : ab_Nn ad U) : ab_Nn ad' U :=
  ⟨fun i x hx => by rw [ho _ (by omega)]; exact h.1 i x hx, h.2⟩
theorem ab_nest_form : ∀ w ∈ ab_nest, ∃ a i y q, w = .methodLinkNest a i y q := by
  intro w hw
  simp only [ab_nest, List.mem_cons, List.not_mem_nil, or_false] at hw
  rcases hw with rfl | rfl | rfl <;> exact ⟨_, _, _, _, rfl⟩
theorem ab_Nn.warm {ad : Nat → Nat} {s U : State} (hW : s.WarmedH U.vm) (h : ab_Nn ad s) : ab_Nn ad U := by
  refine ⟨fun i x hx => (h.1 i x hx).warm hW, fun w hw => ?_, va_Nw.warmF hW h.2.2.1, va_AO.moved hW.alike h.2.2.2.1, va_AO.moved hW.alike h.2.2.2.2⟩
  obtain ⟨a, i, y, q, rfl⟩ := ab_nest_form w hw
  exact va_Nw.warmM hW (h.2.1 _ hw)
theorem ab_Nn.same {ad : Nat → Nat} {s U : State} (hv : U.vm = s.vm) (h : ab_Nn ad s) : ab_Nn ad U := by
  refine ⟨fun i x hx => (h.1 i x hx).same hv, fun w hw => ?_, va_Nw.same rfl hv.symm h.2.2.1, va_AO.moved (by rw [hv]; exact Vm.Alike.refl _) h.2.2.2.1, va_AO.moved (by rw [hv]; exact Vm.Alike.refl _) h.2.2.2.2⟩
  obtain ⟨a, i, y, q, rfl⟩ := ab_nest_form w hw
  exact va_Nw.same rfl hv.symm (h.2.1 _ hw)
theorem ab_En.congr {D : va_G} {cA : Nat → ClassId} {ad ad' : Nat → Nat} {A : Nat → Prop} {s : State} (ho : ∀ k, 900 ≤ k → ad' k = ad k) (h : ab_En D cA ad A s) : ab_En D cA ad' A s :=
  ⟨h.1, h.2.1.congr ho, h.2.2.congr ho⟩
/-- a method's start -/
def ab_Pre (D : va_G) (cA : Nat → ClassId) (ad : Nat → Nat) (h : aH) (sz : Nat) (As : List Value) : Array Value → State → Prop := va_Pc (As.map (ab_v ad)) (fun U => U.heap.size = sz ∧ va_P D vwCl (ab_ws cA ad h) U.heap ∧ va_K D vwCl (ab_tyl cA) U ∧ va_D (fun _ => True) (ab_ws cA ad h) ∧ ab_C ad (va_A (ab_ws cA ad h) sz) U U.heap ∧ ab_Nn ad U)
/-- a method's end -/
def ab_Pst (D : va_G) (cA : Nat → ClassId) (ad : Nat → Nat) (n0 : Nat) (A : Nat → Prop) (v : Option Value) (h' : aH) : Array Value → State → Outcome → State → Prop := fun _ st oc t =>
  (∃ ad' : Nat → Nat, ((∀ k, k < n0 ∨ 900 ≤ k → ad' k = ad k) ∧ (h'.length = n0 → ad' = ad)) ∧ oc = .returned (v.map (ab_v ad')) ∧ va_P D vwCl (ab_ws cA ad' h') t.heap ∧ va_D A (ab_ws cA ad' h')) ∧ va_F A st t
theorem ab_Pre.blind {D : va_G} {cA : Nat → ClassId} {ad : Nat → Nat} {h : aH} {sz : Nat} {As : List Value} : FrameBlind (ab_Pre D cA ad h sz As) := by
  intro a U g mk q
  obtain ⟨q0, q1, q2, q3, q4, q5, q6⟩ := q
  exact ⟨q0, q1, q2, va_K.moved (u := U) (U := U.calling g mk a) (Vm.Alike.refl U.vm) q3, q4, ab_C.moved (u := U) (U := U.calling g mk a) (Vm.Alike.refl U.vm) q5, ab_Nn.same (s := U) (U := U.calling g mk a) rfl q6⟩
def ab_rm (d mc ms : Nat) : Room := { frames := d + 4, cells := mc, slots := ms, locals := 40 * d + 160 }
set_option maxHeartbeats 4000000 in
theorem ab_main {l : Launch} (hck : ab_Ck l) {D : va_G} {cA : Nat → ClassId} : ∀ (n d mi pc : Nat) (L : aL) (S : List Value) (h : aH) (v : Option Value) (h' : aH), ab_rn ab_nf ab_mt n d mi pc L S h = some (v, h') → mi < ab_N →
    ∀ {p : Program} {e : Env} {s : State} {m : MethodId} {args : Array Value} {below : List Frame} {meth : Method} {c : Code} {H : Heap} {locs : List Loc} {cells slots mc ms n0 : Nat} {ad ad0 : Nat → Nat} {A : Nat → Prop} {ls : Array Slot},
      ab_Fr p s m args meth c mi → ab_En D cA ad A s → ab_Wd D cA ad A s h H locs → (∀ q, s.heap.size ≤ q → A q) → ab_L ad ls L → L.length = (ab_y mi).2.2.1 → cells + h'.length = mc + h.length → slots + ab_hs h' = ms + ab_hs h → n0 ≤ h.length → (∀ k, k < n0 ∨ 900 ≤ k → ad k = ad0 k) → (h.length = n0 → ad = ad0) →
      W p l e (ab_rm d mc ms) s m args below meth c H locs cells slots (MQ below (ab_Pst D cA ad0 n0 A v h') args s mc ms A) (F0 m pc ls (S.map (ab_v ad)))
  | 0, _, _, _, _, _, _, _, _, hr => by cases hr
  | n + 1, d, mi, pc, L, S, h, v, h', hr => by
    intro hmi p e s m args below meth c H locs cells slots mc ms n0 ad ad0 A ls F En Wd hA hL hLn hcc hss hn0 ha1 ha2
    have hmono := ab_mono _ _ _ _ _ _ _ _ _ hr
    unfold ab_rn at hr
    split at hr
    · cases hr
    · next en hlk =>
      have hok := ab_look_ok hmi hlk
      have hrt : (ab_mt mi).1 = (ab_y mi).2.2.2.1 := (ab_meth hmi).2.2.2.2.2.2.2.2.1
      rw [hrt] at hr
      split at hr
      · cases hr
      · next pc' L' S' w hst =>
        refine ab_S hck F En Wd hA hL hLn (show 4 ≤ d + 4 by omega) (show 160 ≤ 40 * d + 160 by omega) ⟨show cells ≤ mc by omega, show slots ≤ ms by omega⟩ hok hst ?_
        have hsh := ab_shape hst
        match w, hsh, hst, hr with
        | none, hsh, hst, hr =>
          intro ls' hL'
          exact ab_main hck n d mi pc' L' S' h v h' hr hmi F En Wd hA hL' ((show L'.length = L.length from hsh).trans hLn) hcc hss hn0 ha1 ha2
        | some (a, x), hsh, hst, hr =>
          intro ls' H' locs' hL' Wd'
          obtain ⟨hLL, y, hy, hs⟩ := hsh
          have hLL : L' = L := hLL
          refine ab_main hck n d mi pc' L' S' (h.set a x) v h' hr hmi F En Wd' hA hL' (by rw [hLL]; exact hLn) (by rw [List.length_set]; exact hcc) (by rw [ab_hs_set hy hs]; exact hss) (by rw [List.length_set]; exact hn0) ha1 (fun z => ha2 (by rw [List.length_set] at z; exact z))
      · next pc' L' S' x hst =>
        have hm2 := ab_mono _ _ _ _ _ _ _ _ _ hr
        rw [List.length_append, List.length_singleton, ab_hs_push] at hm2
        refine ab_S hck F En Wd hA hL hLn (show 4 ≤ d + 4 by omega) (show 160 ≤ 40 * d + 160 by omega) ⟨show cells ≤ mc by omega, show slots ≤ ms by omega⟩ hok hst ?_
        obtain ⟨hsh, h9⟩ : L' = L ∧ h.length < 900 := ab_shape hst
        refine ⟨show cells + 1 ≤ mc by omega, show slots + ab_sz x ≤ ms by omega, fun ls' q H' hL' Wd' => ?_⟩
        have := ab_main hck n d mi pc' L' (.ref h.length :: S') (h ++ [x]) v h' hr hmi (cells := cells + 1) (slots := slots + ab_sz x) (mc := mc) (ms := ms) (n0 := n0) (ad0 := ad0) (below := below) (e := e) F (En.congr (fun k hk => ab_up_ho h9 k (Or.inr hk))) Wd' hA hL' (by rw [hsh]; exact hLn) (by rw [List.length_append, List.length_singleton]; omega) (by rw [ab_hs_push]; omega) (by rw [List.length_append]; omega) (fun k hk => by rw [ab_up_ho h9 k (by omega)]; exact ha1 k hk) (fun z => by rw [List.length_append, List.length_singleton] at z; omega)
        have e1 : (Value.ref h.length :: S').map (ab_v (va_up ad h.length q)) = .ref q :: S'.map (ab_v (va_up ad h.length q)) := by simp [ab_v, va_up]
        rw [e1] at this
        exact this
      · next v1 hst =>
        cases hr
        refine ab_S hck F En Wd hA hL hLn (show 4 ≤ d + 4 by omega) (show 160 ≤ 40 * d + 160 by omega) ⟨show cells ≤ mc by omega, show slots ≤ ms by omega⟩ hok hst ?_
        obtain rfl : cells = mc := by omega
        obtain rfl : slots = ms := by omega
        exact ⟨_, _, rfl, fun t ht hW => ⟨⟨ad, ⟨ha1, ha2⟩, rfl, by rw [ht]; exact Wd.1, Wd.2.1⟩, Wd.2.2.F ht⟩, Wd.2.2.2.2⟩
      · next pc' L' S' j As hst =>
        split at hr
        · cases hr
        · next d' =>
          obtain ⟨hsl, hr1⟩ := ab_bif hr
          have hsl := Nat.le_of_ble_eq_true hsl
          split at hr1
          · cases hr1
          · next v1 h1 hc =>
            obtain ⟨hout, hr2⟩ := ab_bif hr1
            have m1 := ab_mono _ _ _ _ _ _ _ _ _ hc
            have m2 := ab_mono _ _ _ _ _ _ _ _ _ hr2
            refine ab_S hck F En Wd hA hL hLn (show 4 ≤ d' + 1 + 4 by omega) (show 160 ≤ 40 * (d' + 1) + 160 by omega) ⟨show cells ≤ mc by omega, show slots ≤ ms by omega⟩ hok hst ?_
            intro hj
            have hsh : L' = L := ab_shape hst
            obtain ⟨y1, y2, y3, y4, y5, y6, y7, y8, y9, y10⟩ := ab_meth hj
            have hMet : Met l (ab_y j).1 (ab_wy j) (ab_rm d' (h1.length - h.length) (ab_hs h1 - ab_hs h)) (ab_Pre D cA ad h H.size As) (ab_Pst D cA ad h.length (va_A (ab_ws cA ad h) H.size) v1 h1) (h1.length - h.length) (ab_hs h1 - ab_hs h) (va_A (ab_ws cA ad h) H.size) := by
              refine Met.ofW (cc := (ab_y j).2.1) (maxL := (ab_y j).2.2.1) (ret := (ab_y j).2.2.2.1) y5 rfl ?_
              intro p2 e2 s2 m2 args2 below2 meth2 c2 s₂ B hml2 hv2
              obtain ⟨rfl, hsz, hP2, hK2, hD2, hC2, hN2⟩ := hv2
              have hts2 := atoms_spec (ws := ab_wy j) B.pre
              have hF2 : ab_Fr p2 s2 m2 (As.map (ab_v ad)).toArray meth2 c2 j := ⟨B.exec, B.bytes, B.returns, hml2, findClass_of_methodNamed B.named, fun w hw => hts2 w (List.mem_cons_of_mem _ hw), B.notSynchronized, fun z => ((name_of_methodNamed B.named B.method).1).trans z⟩
              have hD3 := hD2.self (sz := s2.heap.size)
              rw [← hsz] at hC2 ⊢
              rw [lg_entry_eq]
              rw [y8] at hsl hc
              have := ab_main hck n d' j 0 _ [] h v1 h1 hc hj (below := below2) (e := e2) (cells := 0) (slots := 0) (mc := h1.length - h.length) (ms := ab_hs h1 - ab_hs h) (n0 := h.length) (ad0 := ad) (locs := []) hF2 ⟨hK2, hC2, hN2⟩ ⟨hP2, hD3, va_S.rf⟩ (fun q hq => Or.inr hq) (ab_ent_L hsl) (by simp [ab_ent]; omega) (by omega) (by omega) (Nat.le_refl _) (fun _ _ => rfl) (fun _ => rfl)
              exact this
            have hFc : ∀ q, va_A (ab_ws cA ad h) H.size q → A q := by
              intro q hq
              rcases hq with ⟨k, x, hk⟩ | hq
              · exact Wd.2.1.2 k (q, x) hk
              · exact hA q (Nat.le_trans Wd.2.2.1 hq)
            refine ⟨_, _, _, _, _, _, hMet, rfl, rfl, show d' + 4 + 1 ≤ d' + 1 + 4 by omega, show 40 + (40 * d' + 160) ≤ 40 * (d' + 1) + 160 by omega, ab_Pre.blind, fun U hU hW => ⟨rfl, by rw [hU], by rw [hU]; exact Wd.1, va_K.moved hW.alike En.1, Wd.2.1.weaken (fun _ _ _ _ => trivial), ?_, ab_Nn.warm hW En.2.2⟩, ⟨show cells + (h1.length - h.length) ≤ mc by omega, show slots + (ab_hs h1 - ab_hs h) ≤ ms by omega⟩, fun ls' pc0 st0 hL' hpc hrun => ?_⟩
            · rw [hU]
              exact ((En.2.1.kept Wd.2.2.2.1).narrow hFc).moved hW.alike
            · intro T hT X
              obtain ⟨vv, st₀, t, T', Lc, g0, X', gL, e1, e2, ⟨⟨ad1, ⟨b1, b2⟩, hvv, hP1, hD1⟩, hF1⟩, st⟩ := hrun T hT X
              cases hvv
              have hpc : pc' = pc0 + 3 := hpc
              have hL' : ab_L ad ls' L' := hL'
              have hLS : ab_L ad1 ls' L' ∧ S'.map (ab_v ad1) = S'.map (ab_v ad) := by
                rw [Bool.or_eq_true] at hout
                rcases hout with hout | hout
                · rw [b2 (Nat.eq_of_beq_eq_true hout)]
                  exact ⟨hL', rfl⟩
                · simp only [Bool.and_eq_true] at hout
                  exact ⟨ab_out_L b1 hout.1 hL', ab_out_S b1 hout.2⟩
              have hz1 := hF1.1
              have hk1 := hF1.2
              rw [g0] at hz1 hk1
              have hS1 : va_S A s.heap T'.heap (locs ++ Lc) := by
                refine ⟨Nat.le_trans Wd.2.2.1 (by rw [e1]; exact hz1), fun q h1 h2 => ?_, fun q hq => ?_⟩
                · rw [e1, hk1 q (Nat.lt_of_lt_of_le h1 Wd.2.2.1) (fun z => h2 (hFc q z))]
                  exact Wd.2.2.2.1 q h1 h2
                · rcases List.mem_append.mp hq with z | z
                  · exact Wd.2.2.2.2 q z
                  · exact hFc _ (gL q z)
              have key := ab_main hck n (d' + 1) mi pc' L' (v1.toList ++ S') h1 v h' hr2 hmi (below := below) (e := e) (H := T'.heap) (locs := locs ++ Lc) (cells := cells + (h1.length - h.length)) (slots := slots + (ab_hs h1 - ab_hs h)) (mc := mc) (ms := ms) (n0 := n0) (ad := ad1) (ad0 := ad0) (ls := ls') F (En.congr (fun k hk => b1 k (Or.inr hk))) ⟨by rw [e1]; exact hP1, hD1.weaken (fun k q _ z => hFc q.1 z), hS1⟩ hA hLS.1 (by rw [hsh]; exact hLn) (by omega) (by omega) (by omega) (fun k hk => by rw [b1 k (by omega)]; exact ha1 k hk) (fun z => by rw [b2 (by omega)]; exact ha2 (by omega))
              obtain ⟨t2, a1, a2⟩ := key T' rfl X'
              refine ⟨t2, st t2 ?_, a2⟩
              have e3 : (v1.toList ++ S').map (ab_v ad1) = (v1.map (ab_v ad1)).toList ++ S'.map (ab_v ad) := by
                rw [List.map_append, hLS.2]
                cases v1 <;> rfl
              rw [e3, hpc] at a1
              exact a1
