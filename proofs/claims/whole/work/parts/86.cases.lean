/-! the cases of the law -/
def lw_Fx (p : Program) (l : Launch) (s : State) (m : MethodId) (args : Array Value) (c : Code) (D : va_G) (cA : Nat → ClassId) (adX adM : Nat → Nat) (A0 : Nat → Prop) (b L : Nat) (xs : Nat → Int32) : Prop := p.tables.exec = Jvm.exec ∧ c.code = code ∧ c.maxLocals = 4 ∧ s.vm.findClass RL = some m.cls ∧ (∀ w ∈ ab_G, w.before args s = true) ∧ ab_Ck l ∧ ab_En D cA adX A0 s ∧ ab_En D cA adM A0 s ∧ (∀ q, s.heap.size ≤ q → A0 q) ∧ va_X b L xs s s.heap ∧ b < s.heap.size ∧ ¬ A0 b
def lw_I (D : va_G) (cA : Nat → ClassId) (adX adM : Nat → Nat) (A0 : Nat → Prop) (s : State) (hx hm : aH) (H : Heap) (locs : List Loc) : Prop := RR hx hm ∧ va_P D vwCl (ab_ws cA adX hx) H ∧ va_D A0 (ab_ws cA adX hx) ∧ va_P D vwCl (ab_ws cA adM hm) H ∧ va_D A0 (ab_ws cA adM hm) ∧ tw_ap (ab_ws cA adX hx) (ab_ws cA adM hm) ∧ va_S A0 s.heap H locs
def lw_Ls (ls : Array Slot) (b : Nat) (adX adM : Nat → Nat) (x : Int32) : Prop := ls.size = 4 ∧ ls[0]? = some (.val (.ref b)) ∧ ls[1]? = some (.val (.ref (adX 0))) ∧ ls[2]? = some (.val (.ref (adM 0))) ∧ ls[3]? = some (.val (.int x))
theorem RR.ob {hx hm : aH} (R : RR hx hm) : (∃ fs, hx[0]? = some (.inr (8, fs))) ∧ ∃ fs, hm[0]? = some (.inr (9, fs)) := by
  refine R _ ?_
  intro tN tB pF pA pT pB dN dO dV dZ dQ dU dW sN sO sV sZ sQ sU sW rN rP rK rF rR rT rL rQ mS mT mK mF mG m1 m2 wN wF yN yF iK eN eO eV eZ eQ eU eW eS eB jK fN fO fV fZ fQ fU fW fS fB h0N h0L h0C h1N h1L h1C h2N h2L h2C h3N h3L h3C st draft kept isKept tape taped pos begun sort fault wrongAt rows places aheads readings isFound now at_ place rank nounBits verbBits inner table next powers things holding patterns seeded lanes sizes cells n o e1 e2 _ _ _ _ _ _ _
  subst e1 e2
  exact ⟨⟨_, rfl⟩, ⟨_, rfl⟩⟩
set_option maxHeartbeats 4000000 in
theorem lw_case_feed {p : Program} {l : Launch} {e : Env} {s : State} {m : MethodId} {args : Array Value} {below : List Frame} {meth : Method} {c : Code} {H : Heap} {locs : List Loc} {cells slots : Nat} {Q : State → Prop} {D : va_G} {cA : Nat → ClassId} {adX adM : Nat → Nat} {A0 : Nat → Prop} {hx hm : aH} {ls : Array Slot} {b L : Nat} {xs : Nat → Int32} {x : Int32} (F : lw_Fx p l s m args c D cA adX adM A0 b L xs) (I : lw_I D cA adX adM A0 s hx hm H locs) (hl : lw_Ls ls b adX adM x) (hcap : cells ≤ 600000 ∧ slots ≤ 7302250) (hin : ∀ k : Nat, k < 4 → vp_in (x + Int32.ofInt (k + 1)) L) (K : ∀ (hx1 hm1 : aH) (H1 : Heap) (locs1 : List Loc), lw_I D cA adX adM A0 s hx1 hm1 H1 locs1 → W p l e room_1 s m args below meth c H1 locs1 cells slots Q (F0 m 1068 ls [])) : W p l e room_1 s m args below meth c H locs cells slots Q (F0 m 168 ls []) := by
  obtain ⟨ex, eb, eml, eow, ets, eck, eX1, eM1, eAs, eX, el, eA⟩ := F
  obtain ⟨R, hPX, hDX, hPM, hDM, hap, hS⟩ := I
  obtain ⟨ls4, l0, l1, l2, l3⟩ := hl
  obtain ⟨v, hx1, hm1, gx, gm, R1⟩ := q_feed (c := (xs (x + Int32.ofInt 1).toNatClampNeg)) R
  have z0 := R.sz
  have z1 := R1.sz
  refine lv_aload_n (k := 1) ex eb (by decide +kernel) rfl l1 ?_
  refine lw_arg ex eb eX el eA hS l0 l3 169 1 ⟨by decide +kernel, by decide +kernel, by decide +kernel, by decide +kernel, by decide +kernel⟩ (hin 0 (by decide)) ?_
  refine lw_cv eck 56 13 367 174 [.int (xs (x + Int32.ofInt 1).toNatClampNeg)] [] ex eb eml eow ets (by decide +kernel) (by decide +kernel) (by decide +kernel) (by decide +kernel) (by decide +kernel) rfl rfl (Nat.le_of_ble_eq_true rfl) gx (by omega) (by omega) R.ob.1 eX1 hPX hDX hS eAs hPM hap ls4 (Nat.le_of_ble_eq_true rfl) hcap (by decide +kernel) ?_
  intro H1 locs1 hPX1 hDX1 hap1 hPM1 hS1
  refine lv_aload_n (k := 2) ex eb (by decide +kernel) rfl l2 ?_
  refine lw_arg ex eb eX el eA hS1 l0 l3 178 1 ⟨by decide +kernel, by decide +kernel, by decide +kernel, by decide +kernel, by decide +kernel⟩ (hin 0 (by decide)) ?_
  refine lw_cv eck 105 17 890 183 [.int (xs (x + Int32.ofInt 1).toNatClampNeg)] [.int v] ex eb eml eow ets (by decide +kernel) (by decide +kernel) (by decide +kernel) (by decide +kernel) (by decide +kernel) rfl rfl (Nat.le_of_ble_eq_true rfl) gm (by omega) (by omega) R.ob.2 eM1 hPM1 hDM hS1 eAs hPX1 hap1.symm ls4 (Nat.le_of_ble_eq_true rfl) hcap (by decide +kernel) ?_
  intro H2 locs2 hPM2 hDM2 hap2 hPX2 hS2
  exact lv_icmp_eq (off := 882) (tgt := 1068) ex eb (by decide +kernel) (by decide) (fun _ => K hx1 hm1 H2 locs2 ⟨R1, hPX2, hDX1, hPM2, hDM2, hap2.symm, hS2⟩) (fun q => absurd rfl q)
