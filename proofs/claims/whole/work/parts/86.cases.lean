/-! the cases of the law -/
def lw_Fx (p : Program) (l : Launch) (s : State) (m : MethodId) (args : Array Value) (c : Code) (D : va_G) (cA : Nat → ClassId) (adX adM : Nat → Nat) (A0 : Nat → Prop) (b L : Nat) (xs : Nat → Int32) : Prop := p.tables.exec = Jvm.exec ∧ c.code = code ∧ c.maxLocals = 4 ∧ s.vm.findClass RL = some m.cls ∧ (∀ w ∈ ab_G, w.before args s = true) ∧ ab_Ck l ∧ ab_En D cA adX A0 s ∧ ab_En D cA adM A0 s ∧ (∀ q, s.heap.size ≤ q → A0 q) ∧ va_X b L xs s s.heap ∧ b < s.heap.size ∧ ¬ A0 b
def lw_I (D : va_G) (cA : Nat → ClassId) (adX adM : Nat → Nat) (A0 : Nat → Prop) (s : State) (hx hm : aH) (H : Heap) (locs : List Loc) : Prop := RR hx hm ∧ va_P D vwCl (ab_ws cA adX hx) H ∧ va_D A0 (ab_ws cA adX hx) ∧ va_P D vwCl (ab_ws cA adM hm) H ∧ va_D A0 (ab_ws cA adM hm) ∧ tw_ap (ab_ws cA adX hx) (ab_ws cA adM hm) ∧ va_S A0 s.heap H locs
def lw_Ls (ls : Array Slot) (b : Nat) (adX adM : Nat → Nat) (x : Int32) : Prop := ls.size = 4 ∧ ls[0]? = some (.val (.ref b)) ∧ ls[1]? = some (.val (.ref (adX 0))) ∧ ls[2]? = some (.val (.ref (adM 0))) ∧ ls[3]? = some (.val (.int x))
theorem RR.ob {hx hm : aH} (R : RR hx hm) : (∃ fs, hx[0]? = some (.inr (8, fs))) ∧ ∃ fs, hm[0]? = some (.inr (9, fs)) := by
  refine R _ ?_
  intro tN tB pF pA pT pB dN dO dV dZ dQ dU dW sN sO sV sZ sQ sU sW rN rP rK rF rR rT rL rQ mS mT mK mF mG m1 m2 wN wF yN yF iK eN eO eV eZ eQ eU eW eS eB jK fN fO fV fZ fQ fU fW fS fB h0N h0L h0C h1N h1L h1C h2N h2L h2C h3N h3L h3C st draft kept isKept tape taped pos begun sort fault wrongAt rows places aheads readings isFound now at_ place rank nounBits verbBits inner table next powers things holding patterns seeded lanes sizes cells n o e1 e2 _ _ _ _ _ _ _
  subst e1 e2
  exact ⟨⟨_, rfl⟩, ⟨_, rfl⟩⟩
set_option maxHeartbeats 4000000 in
theorem lw_case_feed {p : Program} {l : Launch} {e : Env} {s : State} {m : MethodId} {args : Array Value} {below : List Frame} {meth : Method} {c : Code} {H : Heap} {locs : List Loc} {cells slots : Nat} {Q : State → Prop} {D : va_G} {cA : Nat → ClassId} {adX adM : Nat → Nat} {A0 : Nat → Prop} {hx hm : aH} {ls : Array Slot} {b L : Nat} {xs : Nat → Int32} {x : Int32} (F : lw_Fx p l s m args c D cA adX adM A0 b L xs) (I : lw_I D cA adX adM A0 s hx hm H locs) (hl : lw_Ls ls b adX adM x) (hcap : cells ≤ 600000 ∧ slots ≤ 7302250) (hin : ∀ k : Nat, k < 4 → vp_in (x + Int32.ofInt (k + 1)) L) (K : ∀ (hx1 hm1 : aH) (H1 : Heap) (locs1 : List Loc), lw_I D cA adX adM A0 s hx1 hm1 H1 locs1 → W p l e room_1 s m args below meth c H1 locs1 cells slots Q (F0 m 1068 ls [])) : W p l e room_1 s m args below meth c H locs cells slots Q (F0 m 168 ls []) := by
  obtain ⟨ex, eb, eml, eow, ets, eck, eX1, eM1, eAs, eX, el, eA⟩ := F
  obtain ⟨R, hPX, hDX, hPM, hDM, hap, hS⟩ := I
  obtain ⟨ls4, l0, l1, l2, l3⟩ := hl
  obtain ⟨v, hx1, hm1, gx, gm, R1⟩ := q_feed (c := (xs (x + Int32.ofInt 1).toNatClampNeg)) R
  have z0 := R.sz
  have z1 := R1.sz
  refine lv_aload_n (k := 1) ex eb (by decide +kernel) rfl l1 ?_
  refine lw_arg ex eb eX el eA hS l0 l3 169 1 ⟨by decide +kernel, by decide +kernel, by decide +kernel, by decide +kernel, by decide +kernel⟩ (hin 0 (by decide)) ?_
  refine lw_cv eck 56 13 367 174 [.int (xs (x + Int32.ofInt 1).toNatClampNeg)] [] ex eb eml eow ets (by decide +kernel) (by decide +kernel) (by decide +kernel) (by decide +kernel) (by decide +kernel) rfl rfl (Nat.le_of_ble_eq_true rfl) gx (by omega) (by omega) R.ob.1 eX1 hPX hDX hS eAs hPM hap ls4 (Nat.le_of_ble_eq_true rfl) hcap (by decide +kernel) ?_
  intro H1 locs1 hPX1 hDX1 hap1 hPM1 hS1
  refine lv_aload_n (k := 2) ex eb (by decide +kernel) rfl l2 ?_
  refine lw_arg ex eb eX el eA hS1 l0 l3 178 1 ⟨by decide +kernel, by decide +kernel, by decide +kernel, by decide +kernel, by decide +kernel⟩ (hin 0 (by decide)) ?_
  refine lw_cv eck 105 17 890 183 [.int (xs (x + Int32.ofInt 1).toNatClampNeg)] [.int v] ex eb eml eow ets (by decide +kernel) (by decide +kernel) (by decide +kernel) (by decide +kernel) (by decide +kernel) rfl rfl (Nat.le_of_ble_eq_true rfl) gm (by omega) (by omega) R.ob.2 eM1 hPM1 hDM hS1 eAs hPX1 hap1.symm ls4 (Nat.le_of_ble_eq_true rfl) hcap (by decide +kernel) ?_
  intro H2 locs2 hPM2 hDM2 hap2 hPX2 hS2
  exact lv_icmp_eq (off := 882) (tgt := 1068) ex eb (by decide +kernel) (by decide) (fun _ => K hx1 hm1 H2 locs2 ⟨R1, hPX2, hDX1, hPM2, hDM2, hap2.symm, hS2⟩) (fun q => absurd rfl q)
set_option maxHeartbeats 4000000 in
theorem lw_case_end {p : Program} {l : Launch} {e : Env} {s : State} {m : MethodId} {args : Array Value} {below : List Frame} {meth : Method} {c : Code} {H : Heap} {locs : List Loc} {cells slots : Nat} {Q : State → Prop} {D : va_G} {cA : Nat → ClassId} {adX adM : Nat → Nat} {A0 : Nat → Prop} {hx hm : aH} {ls : Array Slot} {b L : Nat} {xs : Nat → Int32} {x : Int32} (F : lw_Fx p l s m args c D cA adX adM A0 b L xs) (I : lw_I D cA adX adM A0 s hx hm H locs) (hl : lw_Ls ls b adX adM x) (hcap : cells ≤ 600000 ∧ slots ≤ 7302250) (hin : ∀ k : Nat, k < 4 → vp_in (x + Int32.ofInt (k + 1)) L) (K : ∀ (hx1 hm1 : aH) (H1 : Heap) (locs1 : List Loc), lw_I D cA adX adM A0 s hx1 hm1 H1 locs1 → W p l e room_1 s m args below meth c H1 locs1 cells slots Q (F0 m 1068 ls [])) : W p l e room_1 s m args below meth c H locs cells slots Q (F0 m 191 ls []) := by
  obtain ⟨ex, eb, eml, eow, ets, eck, eX1, eM1, eAs, eX, el, eA⟩ := F
  obtain ⟨R, hPX, hDX, hPM, hDM, hap, hS⟩ := I
  obtain ⟨ls4, l0, l1, l2, l3⟩ := hl
  obtain ⟨v, hx1, hm1, gx, gm, R1⟩ := q_end (c := (xs (x + Int32.ofInt 1).toNatClampNeg)) R
  have z0 := R.sz
  have z1 := R1.sz
  refine lv_aload_n (k := 1) ex eb (by decide +kernel) rfl l1 ?_
  refine lw_arg ex eb eX el eA hS l0 l3 192 1 ⟨by decide +kernel, by decide +kernel, by decide +kernel, by decide +kernel, by decide +kernel⟩ (hin 0 (by decide)) ?_
  refine lw_cv eck 57 18 371 197 [.int (xs (x + Int32.ofInt 1).toNatClampNeg)] [] ex eb eml eow ets (by decide +kernel) (by decide +kernel) (by decide +kernel) (by decide +kernel) (by decide +kernel) rfl rfl (Nat.le_of_ble_eq_true rfl) gx (by omega) (by omega) R.ob.1 eX1 hPX hDX hS eAs hPM hap ls4 (Nat.le_of_ble_eq_true rfl) hcap (by decide +kernel) ?_
  intro H1 locs1 hPX1 hDX1 hap1 hPM1 hS1
  refine lv_aload_n (k := 2) ex eb (by decide +kernel) rfl l2 ?_
  refine lw_arg ex eb eX el eA hS1 l0 l3 201 1 ⟨by decide +kernel, by decide +kernel, by decide +kernel, by decide +kernel, by decide +kernel⟩ (hin 0 (by decide)) ?_
  refine lw_cv eck 106 21 898 206 [.int (xs (x + Int32.ofInt 1).toNatClampNeg)] [.int v] ex eb eml eow ets (by decide +kernel) (by decide +kernel) (by decide +kernel) (by decide +kernel) (by decide +kernel) rfl rfl (Nat.le_of_ble_eq_true rfl) gm (by omega) (by omega) R.ob.2 eM1 hPM1 hDM hS1 eAs hPX1 hap1.symm ls4 (Nat.le_of_ble_eq_true rfl) hcap (by decide +kernel) ?_
  intro H2 locs2 hPM2 hDM2 hap2 hPX2 hS2
  exact lv_icmp_eq (off := 859) (tgt := 1068) ex eb (by decide +kernel) (by decide) (fun _ => K hx1 hm1 H2 locs2 ⟨R1, hPX2, hDX1, hPM2, hDM2, hap2.symm, hS2⟩) (fun q => absurd rfl q)
set_option maxHeartbeats 4000000 in
theorem lw_case_text {p : Program} {l : Launch} {e : Env} {s : State} {m : MethodId} {args : Array Value} {below : List Frame} {meth : Method} {c : Code} {H : Heap} {locs : List Loc} {cells slots : Nat} {Q : State → Prop} {D : va_G} {cA : Nat → ClassId} {adX adM : Nat → Nat} {A0 : Nat → Prop} {hx hm : aH} {ls : Array Slot} {b L : Nat} {xs : Nat → Int32} {x : Int32} (F : lw_Fx p l s m args c D cA adX adM A0 b L xs) (I : lw_I D cA adX adM A0 s hx hm H locs) (hl : lw_Ls ls b adX adM x) (hcap : cells ≤ 600000 ∧ slots ≤ 7302250) (hin : ∀ k : Nat, k < 4 → vp_in (x + Int32.ofInt (k + 1)) L) (K : ∀ (hx1 hm1 : aH) (H1 : Heap) (locs1 : List Loc), lw_I D cA adX adM A0 s hx1 hm1 H1 locs1 → W p l e room_1 s m args below meth c H1 locs1 cells slots Q (F0 m 1068 ls [])) : W p l e room_1 s m args below meth c H locs cells slots Q (F0 m 214 ls []) := by
  obtain ⟨ex, eb, eml, eow, ets, eck, eX1, eM1, eAs, eX, el, eA⟩ := F
  obtain ⟨R, hPX, hDX, hPM, hDM, hap, hS⟩ := I
  obtain ⟨ls4, l0, l1, l2, l3⟩ := hl
  obtain ⟨v, hx1, hm1, gx, gm, R1⟩ := q_text  R
  have z0 := R.sz
  have z1 := R1.sz
  refine lv_aload_n (k := 1) ex eb (by decide +kernel) rfl l1 ?_
  refine lw_cv eck 58 22 375 215 [] [] ex eb eml eow ets (by decide +kernel) (by decide +kernel) (by decide +kernel) (by decide +kernel) (by decide +kernel) rfl rfl (Nat.le_of_ble_eq_true rfl) gx (by omega) (by omega) R.ob.1 eX1 hPX hDX hS eAs hPM hap ls4 (Nat.le_of_ble_eq_true rfl) hcap (by decide +kernel) ?_
  intro H1 locs1 hPX1 hDX1 hap1 hPM1 hS1
  refine lv_aload_n (k := 2) ex eb (by decide +kernel) rfl l2 ?_
  refine lw_cv eck 117 26 902 219 [] [.int v] ex eb eml eow ets (by decide +kernel) (by decide +kernel) (by decide +kernel) (by decide +kernel) (by decide +kernel) rfl rfl (Nat.le_of_ble_eq_true rfl) gm (by omega) (by omega) R.ob.2 eM1 hPM1 hDM hS1 eAs hPX1 hap1.symm ls4 (Nat.le_of_ble_eq_true rfl) hcap (by decide +kernel) ?_
  intro H2 locs2 hPM2 hDM2 hap2 hPX2 hS2
  exact lv_icmp_eq (off := 846) (tgt := 1068) ex eb (by decide +kernel) (by decide) (fun _ => K hx1 hm1 H2 locs2 ⟨R1, hPX2, hDX1, hPM2, hDM2, hap2.symm, hS2⟩) (fun q => absurd rfl q)
set_option maxHeartbeats 4000000 in
theorem lw_case_fault {p : Program} {l : Launch} {e : Env} {s : State} {m : MethodId} {args : Array Value} {below : List Frame} {meth : Method} {c : Code} {H : Heap} {locs : List Loc} {cells slots : Nat} {Q : State → Prop} {D : va_G} {cA : Nat → ClassId} {adX adM : Nat → Nat} {A0 : Nat → Prop} {hx hm : aH} {ls : Array Slot} {b L : Nat} {xs : Nat → Int32} {x : Int32} (F : lw_Fx p l s m args c D cA adX adM A0 b L xs) (I : lw_I D cA adX adM A0 s hx hm H locs) (hl : lw_Ls ls b adX adM x) (hcap : cells ≤ 600000 ∧ slots ≤ 7302250) (hin : ∀ k : Nat, k < 4 → vp_in (x + Int32.ofInt (k + 1)) L) (K : ∀ (hx1 hm1 : aH) (H1 : Heap) (locs1 : List Loc), lw_I D cA adX adM A0 s hx1 hm1 H1 locs1 → W p l e room_1 s m args below meth c H1 locs1 cells slots Q (F0 m 1068 ls [])) : W p l e room_1 s m args below meth c H locs cells slots Q (F0 m 227 ls []) := by
  obtain ⟨ex, eb, eml, eow, ets, eck, eX1, eM1, eAs, eX, el, eA⟩ := F
  obtain ⟨R, hPX, hDX, hPM, hDM, hap, hS⟩ := I
  obtain ⟨ls4, l0, l1, l2, l3⟩ := hl
  obtain ⟨v, hx1, hm1, gx, gm, R1⟩ := q_fault  R
  have z0 := R.sz
  have z1 := R1.sz
  refine lv_aload_n (k := 1) ex eb (by decide +kernel) rfl l1 ?_
  refine lw_cv eck 59 27 492 228 [] [] ex eb eml eow ets (by decide +kernel) (by decide +kernel) (by decide +kernel) (by decide +kernel) (by decide +kernel) rfl rfl (Nat.le_of_ble_eq_true rfl) gx (by omega) (by omega) R.ob.1 eX1 hPX hDX hS eAs hPM hap ls4 (Nat.le_of_ble_eq_true rfl) hcap (by decide +kernel) ?_
  intro H1 locs1 hPX1 hDX1 hap1 hPM1 hS1
  refine lv_aload_n (k := 2) ex eb (by decide +kernel) rfl l2 ?_
  refine lw_cv eck 118 30 948 232 [] [.int v] ex eb eml eow ets (by decide +kernel) (by decide +kernel) (by decide +kernel) (by decide +kernel) (by decide +kernel) rfl rfl (Nat.le_of_ble_eq_true rfl) gm (by omega) (by omega) R.ob.2 eM1 hPM1 hDM hS1 eAs hPX1 hap1.symm ls4 (Nat.le_of_ble_eq_true rfl) hcap (by decide +kernel) ?_
  intro H2 locs2 hPM2 hDM2 hap2 hPX2 hS2
  exact lv_icmp_eq (off := 833) (tgt := 1068) ex eb (by decide +kernel) (by decide) (fun _ => K hx1 hm1 H2 locs2 ⟨R1, hPX2, hDX1, hPM2, hDM2, hap2.symm, hS2⟩) (fun q => absurd rfl q)
set_option maxHeartbeats 4000000 in
theorem lw_case_rule {p : Program} {l : Launch} {e : Env} {s : State} {m : MethodId} {args : Array Value} {below : List Frame} {meth : Method} {c : Code} {H : Heap} {locs : List Loc} {cells slots : Nat} {Q : State → Prop} {D : va_G} {cA : Nat → ClassId} {adX adM : Nat → Nat} {A0 : Nat → Prop} {hx hm : aH} {ls : Array Slot} {b L : Nat} {xs : Nat → Int32} {x : Int32} (F : lw_Fx p l s m args c D cA adX adM A0 b L xs) (I : lw_I D cA adX adM A0 s hx hm H locs) (hl : lw_Ls ls b adX adM x) (hcap : cells ≤ 600000 ∧ slots ≤ 7302250) (hin : ∀ k : Nat, k < 4 → vp_in (x + Int32.ofInt (k + 1)) L) (K : ∀ (hx1 hm1 : aH) (H1 : Heap) (locs1 : List Loc), lw_I D cA adX adM A0 s hx1 hm1 H1 locs1 → W p l e room_1 s m args below meth c H1 locs1 cells slots Q (F0 m 1068 ls [])) : W p l e room_1 s m args below meth c H locs cells slots Q (F0 m 240 ls []) := by
  obtain ⟨ex, eb, eml, eow, ets, eck, eX1, eM1, eAs, eX, el, eA⟩ := F
  obtain ⟨R, hPX, hDX, hPM, hDM, hap, hS⟩ := I
  obtain ⟨ls4, l0, l1, l2, l3⟩ := hl
  obtain ⟨v, hx1, hm1, gx, gm, R1⟩ := q_rule (p0 := (xs (x + Int32.ofInt 1).toNatClampNeg)) R
  have z0 := R.sz
  have z1 := R1.sz
  refine lv_aload_n (k := 1) ex eb (by decide +kernel) rfl l1 ?_
  refine lw_arg ex eb eX el eA hS l0 l3 241 1 ⟨by decide +kernel, by decide +kernel, by decide +kernel, by decide +kernel, by decide +kernel⟩ (hin 0 (by decide)) ?_
  refine lw_cv eck 60 31 496 246 [.int (xs (x + Int32.ofInt 1).toNatClampNeg)] [] ex eb eml eow ets (by decide +kernel) (by decide +kernel) (by decide +kernel) (by decide +kernel) (by decide +kernel) rfl rfl (Nat.le_of_ble_eq_true rfl) gx (by omega) (by omega) R.ob.1 eX1 hPX hDX hS eAs hPM hap ls4 (Nat.le_of_ble_eq_true rfl) hcap (by decide +kernel) ?_
  intro H1 locs1 hPX1 hDX1 hap1 hPM1 hS1
  refine lv_aload_n (k := 2) ex eb (by decide +kernel) rfl l2 ?_
  refine lw_arg ex eb eX el eA hS1 l0 l3 250 1 ⟨by decide +kernel, by decide +kernel, by decide +kernel, by decide +kernel, by decide +kernel⟩ (hin 0 (by decide)) ?_
  refine lw_cv eck 143 34 952 255 [.int (xs (x + Int32.ofInt 1).toNatClampNeg)] [.int v] ex eb eml eow ets (by decide +kernel) (by decide +kernel) (by decide +kernel) (by decide +kernel) (by decide +kernel) rfl rfl (Nat.le_of_ble_eq_true rfl) gm (by omega) (by omega) R.ob.2 eM1 hPM1 hDM hS1 eAs hPX1 hap1.symm ls4 (Nat.le_of_ble_eq_true rfl) hcap (by decide +kernel) ?_
  intro H2 locs2 hPM2 hDM2 hap2 hPX2 hS2
  exact lv_icmp_eq (off := 810) (tgt := 1068) ex eb (by decide +kernel) (by decide) (fun _ => K hx1 hm1 H2 locs2 ⟨R1, hPX2, hDX1, hPM2, hDM2, hap2.symm, hS2⟩) (fun q => absurd rfl q)
set_option maxHeartbeats 4000000 in
theorem lw_case_phrase {p : Program} {l : Launch} {e : Env} {s : State} {m : MethodId} {args : Array Value} {below : List Frame} {meth : Method} {c : Code} {H : Heap} {locs : List Loc} {cells slots : Nat} {Q : State → Prop} {D : va_G} {cA : Nat → ClassId} {adX adM : Nat → Nat} {A0 : Nat → Prop} {hx hm : aH} {ls : Array Slot} {b L : Nat} {xs : Nat → Int32} {x : Int32} (F : lw_Fx p l s m args c D cA adX adM A0 b L xs) (I : lw_I D cA adX adM A0 s hx hm H locs) (hl : lw_Ls ls b adX adM x) (hcap : cells ≤ 600000 ∧ slots ≤ 7302250) (hin : ∀ k : Nat, k < 4 → vp_in (x + Int32.ofInt (k + 1)) L) (K : ∀ (hx1 hm1 : aH) (H1 : Heap) (locs1 : List Loc), lw_I D cA adX adM A0 s hx1 hm1 H1 locs1 → W p l e room_1 s m args below meth c H1 locs1 cells slots Q (F0 m 1068 ls [])) : W p l e room_1 s m args below meth c H locs cells slots Q (F0 m 263 ls []) := by
  obtain ⟨ex, eb, eml, eow, ets, eck, eX1, eM1, eAs, eX, el, eA⟩ := F
  obtain ⟨R, hPX, hDX, hPM, hDM, hap, hS⟩ := I
  obtain ⟨ls4, l0, l1, l2, l3⟩ := hl
  obtain ⟨v, hx1, hm1, gx, gm, R1⟩ := q_phrase (p0 := (xs (x + Int32.ofInt 1).toNatClampNeg)) (p1 := (xs (x + Int32.ofInt 2).toNatClampNeg)) R
  have z0 := R.sz
  have z1 := R1.sz
  refine lv_aload_n (k := 1) ex eb (by decide +kernel) rfl l1 ?_
  refine lw_arg ex eb eX el eA hS l0 l3 264 1 ⟨by decide +kernel, by decide +kernel, by decide +kernel, by decide +kernel, by decide +kernel⟩ (hin 0 (by decide)) ?_
  refine lw_arg ex eb eX el eA hS l0 l3 269 2 ⟨by decide +kernel, by decide +kernel, by decide +kernel, by decide +kernel, by decide +kernel⟩ (hin 1 (by decide)) ?_
  refine lw_cv eck 61 35 557 274 [.int (xs (x + Int32.ofInt 1).toNatClampNeg), .int (xs (x + Int32.ofInt 2).toNatClampNeg)] [] ex eb eml eow ets (by decide +kernel) (by decide +kernel) (by decide +kernel) (by decide +kernel) (by decide +kernel) rfl rfl (Nat.le_of_ble_eq_true rfl) gx (by omega) (by omega) R.ob.1 eX1 hPX hDX hS eAs hPM hap ls4 (Nat.le_of_ble_eq_true rfl) hcap (by decide +kernel) ?_
  intro H1 locs1 hPX1 hDX1 hap1 hPM1 hS1
  refine lv_aload_n (k := 2) ex eb (by decide +kernel) rfl l2 ?_
  refine lw_arg ex eb eX el eA hS1 l0 l3 278 1 ⟨by decide +kernel, by decide +kernel, by decide +kernel, by decide +kernel, by decide +kernel⟩ (hin 0 (by decide)) ?_
  refine lw_arg ex eb eX el eA hS1 l0 l3 283 2 ⟨by decide +kernel, by decide +kernel, by decide +kernel, by decide +kernel, by decide +kernel⟩ (hin 1 (by decide)) ?_
  refine lw_cv eck 145 39 1040 288 [.int (xs (x + Int32.ofInt 1).toNatClampNeg), .int (xs (x + Int32.ofInt 2).toNatClampNeg)] [.int v] ex eb eml eow ets (by decide +kernel) (by decide +kernel) (by decide +kernel) (by decide +kernel) (by decide +kernel) rfl rfl (Nat.le_of_ble_eq_true rfl) gm (by omega) (by omega) R.ob.2 eM1 hPM1 hDM hS1 eAs hPX1 hap1.symm ls4 (Nat.le_of_ble_eq_true rfl) hcap (by decide +kernel) ?_
  intro H2 locs2 hPM2 hDM2 hap2 hPX2 hS2
  exact lv_icmp_eq (off := 777) (tgt := 1068) ex eb (by decide +kernel) (by decide) (fun _ => K hx1 hm1 H2 locs2 ⟨R1, hPX2, hDX1, hPM2, hDM2, hap2.symm, hS2⟩) (fun q => absurd rfl q)
set_option maxHeartbeats 4000000 in
theorem lw_case_becomes {p : Program} {l : Launch} {e : Env} {s : State} {m : MethodId} {args : Array Value} {below : List Frame} {meth : Method} {c : Code} {H : Heap} {locs : List Loc} {cells slots : Nat} {Q : State → Prop} {D : va_G} {cA : Nat → ClassId} {adX adM : Nat → Nat} {A0 : Nat → Prop} {hx hm : aH} {ls : Array Slot} {b L : Nat} {xs : Nat → Int32} {x : Int32} (F : lw_Fx p l s m args c D cA adX adM A0 b L xs) (I : lw_I D cA adX adM A0 s hx hm H locs) (hl : lw_Ls ls b adX adM x) (hcap : cells ≤ 600000 ∧ slots ≤ 7302250) (hin : ∀ k : Nat, k < 4 → vp_in (x + Int32.ofInt (k + 1)) L) (K : ∀ (hx1 hm1 : aH) (H1 : Heap) (locs1 : List Loc), lw_I D cA adX adM A0 s hx1 hm1 H1 locs1 → W p l e room_1 s m args below meth c H1 locs1 cells slots Q (F0 m 1068 ls [])) : W p l e room_1 s m args below meth c H locs cells slots Q (F0 m 296 ls []) := by
  obtain ⟨ex, eb, eml, eow, ets, eck, eX1, eM1, eAs, eX, el, eA⟩ := F
  obtain ⟨R, hPX, hDX, hPM, hDM, hap, hS⟩ := I
  obtain ⟨ls4, l0, l1, l2, l3⟩ := hl
  obtain ⟨v, hx1, hm1, gx, gm, R1⟩ := q_becomes (p0 := (xs (x + Int32.ofInt 1).toNatClampNeg)) (p1 := (xs (x + Int32.ofInt 2).toNatClampNeg)) (p2 := (xs (x + Int32.ofInt 3).toNatClampNeg)) R
  have z0 := R.sz
  have z1 := R1.sz
  refine lv_aload_n (k := 1) ex eb (by decide +kernel) rfl l1 ?_
  refine lw_arg ex eb eX el eA hS l0 l3 297 1 ⟨by decide +kernel, by decide +kernel, by decide +kernel, by decide +kernel, by decide +kernel⟩ (hin 0 (by decide)) ?_
  refine lw_arg ex eb eX el eA hS l0 l3 302 2 ⟨by decide +kernel, by decide +kernel, by decide +kernel, by decide +kernel, by decide +kernel⟩ (hin 1 (by decide)) ?_
  refine lw_arg ex eb eX el eA hS l0 l3 307 3 ⟨by decide +kernel, by decide +kernel, by decide +kernel, by decide +kernel, by decide +kernel⟩ (hin 2 (by decide)) ?_
  refine lw_cv eck 62 40 571 312 [.int (xs (x + Int32.ofInt 1).toNatClampNeg), .int (xs (x + Int32.ofInt 2).toNatClampNeg), .int (xs (x + Int32.ofInt 3).toNatClampNeg)] [] ex eb eml eow ets (by decide +kernel) (by decide +kernel) (by decide +kernel) (by decide +kernel) (by decide +kernel) rfl rfl (Nat.le_of_ble_eq_true rfl) gx (by omega) (by omega) R.ob.1 eX1 hPX hDX hS eAs hPM hap ls4 (Nat.le_of_ble_eq_true rfl) hcap (by decide +kernel) ?_
  intro H1 locs1 hPX1 hDX1 hap1 hPM1 hS1
  refine lv_aload_n (k := 2) ex eb (by decide +kernel) rfl l2 ?_
  refine lw_arg ex eb eX el eA hS1 l0 l3 316 1 ⟨by decide +kernel, by decide +kernel, by decide +kernel, by decide +kernel, by decide +kernel⟩ (hin 0 (by decide)) ?_
  refine lw_arg ex eb eX el eA hS1 l0 l3 321 2 ⟨by decide +kernel, by decide +kernel, by decide +kernel, by decide +kernel, by decide +kernel⟩ (hin 1 (by decide)) ?_
  refine lw_arg ex eb eX el eA hS1 l0 l3 326 3 ⟨by decide +kernel, by decide +kernel, by decide +kernel, by decide +kernel, by decide +kernel⟩ (hin 2 (by decide)) ?_
  refine lw_cv eck 146 44 1053 331 [.int (xs (x + Int32.ofInt 1).toNatClampNeg), .int (xs (x + Int32.ofInt 2).toNatClampNeg), .int (xs (x + Int32.ofInt 3).toNatClampNeg)] [.int v] ex eb eml eow ets (by decide +kernel) (by decide +kernel) (by decide +kernel) (by decide +kernel) (by decide +kernel) rfl rfl (Nat.le_of_ble_eq_true rfl) gm (by omega) (by omega) R.ob.2 eM1 hPM1 hDM hS1 eAs hPX1 hap1.symm ls4 (Nat.le_of_ble_eq_true rfl) hcap (by decide +kernel) ?_
  intro H2 locs2 hPM2 hDM2 hap2 hPX2 hS2
  exact lv_icmp_eq (off := 734) (tgt := 1068) ex eb (by decide +kernel) (by decide) (fun _ => K hx1 hm1 H2 locs2 ⟨R1, hPX2, hDX1, hPM2, hDM2, hap2.symm, hS2⟩) (fun q => absurd rfl q)
set_option maxHeartbeats 4000000 in
theorem lw_case_draw {p : Program} {l : Launch} {e : Env} {s : State} {m : MethodId} {args : Array Value} {below : List Frame} {meth : Method} {c : Code} {H : Heap} {locs : List Loc} {cells slots : Nat} {Q : State → Prop} {D : va_G} {cA : Nat → ClassId} {adX adM : Nat → Nat} {A0 : Nat → Prop} {hx hm : aH} {ls : Array Slot} {b L : Nat} {xs : Nat → Int32} {x : Int32} (F : lw_Fx p l s m args c D cA adX adM A0 b L xs) (I : lw_I D cA adX adM A0 s hx hm H locs) (hl : lw_Ls ls b adX adM x) (hcap : cells ≤ 600000 ∧ slots ≤ 7302250) (hin : ∀ k : Nat, k < 4 → vp_in (x + Int32.ofInt (k + 1)) L) (K : ∀ (hx1 hm1 : aH) (H1 : Heap) (locs1 : List Loc), lw_I D cA adX adM A0 s hx1 hm1 H1 locs1 → W p l e room_1 s m args below meth c H1 locs1 cells slots Q (F0 m 1068 ls [])) : W p l e room_1 s m args below meth c H locs cells slots Q (F0 m 339 ls []) := by
  obtain ⟨ex, eb, eml, eow, ets, eck, eX1, eM1, eAs, eX, el, eA⟩ := F
  obtain ⟨R, hPX, hDX, hPM, hDM, hap, hS⟩ := I
  obtain ⟨ls4, l0, l1, l2, l3⟩ := hl
  obtain ⟨v, hx1, hm1, gx, gm, R1⟩ := q_draw (p0 := (xs (x + Int32.ofInt 1).toNatClampNeg)) R
  have z0 := R.sz
  have z1 := R1.sz
  refine lv_aload_n (k := 1) ex eb (by decide +kernel) rfl l1 ?_
  refine lw_arg ex eb eX el eA hS l0 l3 340 1 ⟨by decide +kernel, by decide +kernel, by decide +kernel, by decide +kernel, by decide +kernel⟩ (hin 0 (by decide)) ?_
  refine lw_cv eck 63 45 575 345 [.int (xs (x + Int32.ofInt 1).toNatClampNeg)] [] ex eb eml eow ets (by decide +kernel) (by decide +kernel) (by decide +kernel) (by decide +kernel) (by decide +kernel) rfl rfl (Nat.le_of_ble_eq_true rfl) gx (by omega) (by omega) R.ob.1 eX1 hPX hDX hS eAs hPM hap ls4 (Nat.le_of_ble_eq_true rfl) hcap (by decide +kernel) ?_
  intro H1 locs1 hPX1 hDX1 hap1 hPM1 hS1
  refine lv_aload_n (k := 2) ex eb (by decide +kernel) rfl l2 ?_
  refine lw_arg ex eb eX el eA hS1 l0 l3 349 1 ⟨by decide +kernel, by decide +kernel, by decide +kernel, by decide +kernel, by decide +kernel⟩ (hin 0 (by decide)) ?_
  refine lw_cv eck 149 48 1059 354 [.int (xs (x + Int32.ofInt 1).toNatClampNeg)] [.int v] ex eb eml eow ets (by decide +kernel) (by decide +kernel) (by decide +kernel) (by decide +kernel) (by decide +kernel) rfl rfl (Nat.le_of_ble_eq_true rfl) gm (by omega) (by omega) R.ob.2 eM1 hPM1 hDM hS1 eAs hPX1 hap1.symm ls4 (Nat.le_of_ble_eq_true rfl) hcap (by decide +kernel) ?_
  intro H2 locs2 hPM2 hDM2 hap2 hPX2 hS2
  exact lv_icmp_eq (off := 711) (tgt := 1068) ex eb (by decide +kernel) (by decide) (fun _ => K hx1 hm1 H2 locs2 ⟨R1, hPX2, hDX1, hPM2, hDM2, hap2.symm, hS2⟩) (fun q => absurd rfl q)
set_option maxHeartbeats 4000000 in
theorem lw_case_within {p : Program} {l : Launch} {e : Env} {s : State} {m : MethodId} {args : Array Value} {below : List Frame} {meth : Method} {c : Code} {H : Heap} {locs : List Loc} {cells slots : Nat} {Q : State → Prop} {D : va_G} {cA : Nat → ClassId} {adX adM : Nat → Nat} {A0 : Nat → Prop} {hx hm : aH} {ls : Array Slot} {b L : Nat} {xs : Nat → Int32} {x : Int32} (F : lw_Fx p l s m args c D cA adX adM A0 b L xs) (I : lw_I D cA adX adM A0 s hx hm H locs) (hl : lw_Ls ls b adX adM x) (hcap : cells ≤ 600000 ∧ slots ≤ 7302250) (hin : ∀ k : Nat, k < 4 → vp_in (x + Int32.ofInt (k + 1)) L) (K : ∀ (hx1 hm1 : aH) (H1 : Heap) (locs1 : List Loc), lw_I D cA adX adM A0 s hx1 hm1 H1 locs1 → W p l e room_1 s m args below meth c H1 locs1 cells slots Q (F0 m 1068 ls [])) : W p l e room_1 s m args below meth c H locs cells slots Q (F0 m 362 ls []) := by
  obtain ⟨ex, eb, eml, eow, ets, eck, eX1, eM1, eAs, eX, el, eA⟩ := F
  obtain ⟨R, hPX, hDX, hPM, hDM, hap, hS⟩ := I
  obtain ⟨ls4, l0, l1, l2, l3⟩ := hl
  obtain ⟨v, hx1, hm1, gx, gm, R1⟩ := q_within (p0 := (xs (x + Int32.ofInt 1).toNatClampNeg)) (p1 := (xs (x + Int32.ofInt 2).toNatClampNeg)) R
  have z0 := R.sz
  have z1 := R1.sz
  refine lv_aload_n (k := 1) ex eb (by decide +kernel) rfl l1 ?_
  refine lw_arg ex eb eX el eA hS l0 l3 363 1 ⟨by decide +kernel, by decide +kernel, by decide +kernel, by decide +kernel, by decide +kernel⟩ (hin 0 (by decide)) ?_
  refine lw_arg ex eb eX el eA hS l0 l3 368 2 ⟨by decide +kernel, by decide +kernel, by decide +kernel, by decide +kernel, by decide +kernel⟩ (hin 1 (by decide)) ?_
  refine lw_cv eck 64 49 594 373 [.int (xs (x + Int32.ofInt 1).toNatClampNeg), .int (xs (x + Int32.ofInt 2).toNatClampNeg)] [] ex eb eml eow ets (by decide +kernel) (by decide +kernel) (by decide +kernel) (by decide +kernel) (by decide +kernel) rfl rfl (Nat.le_of_ble_eq_true rfl) gx (by omega) (by omega) R.ob.1 eX1 hPX hDX hS eAs hPM hap ls4 (Nat.le_of_ble_eq_true rfl) hcap (by decide +kernel) ?_
  intro H1 locs1 hPX1 hDX1 hap1 hPM1 hS1
  refine lv_aload_n (k := 2) ex eb (by decide +kernel) rfl l2 ?_
  refine lw_arg ex eb eX el eA hS1 l0 l3 377 1 ⟨by decide +kernel, by decide +kernel, by decide +kernel, by decide +kernel, by decide +kernel⟩ (hin 0 (by decide)) ?_
  refine lw_arg ex eb eX el eA hS1 l0 l3 382 2 ⟨by decide +kernel, by decide +kernel, by decide +kernel, by decide +kernel, by decide +kernel⟩ (hin 1 (by decide)) ?_
  refine lw_cv eck 150 52 1072 387 [.int (xs (x + Int32.ofInt 1).toNatClampNeg), .int (xs (x + Int32.ofInt 2).toNatClampNeg)] [.int v] ex eb eml eow ets (by decide +kernel) (by decide +kernel) (by decide +kernel) (by decide +kernel) (by decide +kernel) rfl rfl (Nat.le_of_ble_eq_true rfl) gm (by omega) (by omega) R.ob.2 eM1 hPM1 hDM hS1 eAs hPX1 hap1.symm ls4 (Nat.le_of_ble_eq_true rfl) hcap (by decide +kernel) ?_
  intro H2 locs2 hPM2 hDM2 hap2 hPX2 hS2
  exact lv_icmp_eq (off := 678) (tgt := 1068) ex eb (by decide +kernel) (by decide) (fun _ => K hx1 hm1 H2 locs2 ⟨R1, hPX2, hDX1, hPM2, hDM2, hap2.symm, hS2⟩) (fun q => absurd rfl q)
set_option maxHeartbeats 4000000 in
theorem lw_case_ahead {p : Program} {l : Launch} {e : Env} {s : State} {m : MethodId} {args : Array Value} {below : List Frame} {meth : Method} {c : Code} {H : Heap} {locs : List Loc} {cells slots : Nat} {Q : State → Prop} {D : va_G} {cA : Nat → ClassId} {adX adM : Nat → Nat} {A0 : Nat → Prop} {hx hm : aH} {ls : Array Slot} {b L : Nat} {xs : Nat → Int32} {x : Int32} (F : lw_Fx p l s m args c D cA adX adM A0 b L xs) (I : lw_I D cA adX adM A0 s hx hm H locs) (hl : lw_Ls ls b adX adM x) (hcap : cells ≤ 600000 ∧ slots ≤ 7302250) (hin : ∀ k : Nat, k < 4 → vp_in (x + Int32.ofInt (k + 1)) L) (K : ∀ (hx1 hm1 : aH) (H1 : Heap) (locs1 : List Loc), lw_I D cA adX adM A0 s hx1 hm1 H1 locs1 → W p l e room_1 s m args below meth c H1 locs1 cells slots Q (F0 m 1068 ls [])) : W p l e room_1 s m args below meth c H locs cells slots Q (F0 m 395 ls []) := by
  obtain ⟨ex, eb, eml, eow, ets, eck, eX1, eM1, eAs, eX, el, eA⟩ := F
  obtain ⟨R, hPX, hDX, hPM, hDM, hap, hS⟩ := I
  obtain ⟨ls4, l0, l1, l2, l3⟩ := hl
  obtain ⟨v, hx1, hm1, gx, gm, R1⟩ := q_ahead (p0 := (xs (x + Int32.ofInt 1).toNatClampNeg)) (p1 := (xs (x + Int32.ofInt 2).toNatClampNeg)) R
  have z0 := R.sz
  have z1 := R1.sz
  refine lv_aload_n (k := 1) ex eb (by decide +kernel) rfl l1 ?_
  refine lw_arg ex eb eX el eA hS l0 l3 396 1 ⟨by decide +kernel, by decide +kernel, by decide +kernel, by decide +kernel, by decide +kernel⟩ (hin 0 (by decide)) ?_
  refine lw_arg ex eb eX el eA hS l0 l3 401 2 ⟨by decide +kernel, by decide +kernel, by decide +kernel, by decide +kernel, by decide +kernel⟩ (hin 1 (by decide)) ?_
  refine lw_cv eck 65 53 602 406 [.int (xs (x + Int32.ofInt 1).toNatClampNeg), .int (xs (x + Int32.ofInt 2).toNatClampNeg)] [] ex eb eml eow ets (by decide +kernel) (by decide +kernel) (by decide +kernel) (by decide +kernel) (by decide +kernel) rfl rfl (Nat.le_of_ble_eq_true rfl) gx (by omega) (by omega) R.ob.1 eX1 hPX hDX hS eAs hPM hap ls4 (Nat.le_of_ble_eq_true rfl) hcap (by decide +kernel) ?_
  intro H1 locs1 hPX1 hDX1 hap1 hPM1 hS1
  refine lv_aload_n (k := 2) ex eb (by decide +kernel) rfl l2 ?_
  refine lw_arg ex eb eX el eA hS1 l0 l3 410 1 ⟨by decide +kernel, by decide +kernel, by decide +kernel, by decide +kernel, by decide +kernel⟩ (hin 0 (by decide)) ?_
  refine lw_arg ex eb eX el eA hS1 l0 l3 415 2 ⟨by decide +kernel, by decide +kernel, by decide +kernel, by decide +kernel, by decide +kernel⟩ (hin 1 (by decide)) ?_
  refine lw_cv eck 151 56 1080 420 [.int (xs (x + Int32.ofInt 1).toNatClampNeg), .int (xs (x + Int32.ofInt 2).toNatClampNeg)] [.int v] ex eb eml eow ets (by decide +kernel) (by decide +kernel) (by decide +kernel) (by decide +kernel) (by decide +kernel) rfl rfl (Nat.le_of_ble_eq_true rfl) gm (by omega) (by omega) R.ob.2 eM1 hPM1 hDM hS1 eAs hPX1 hap1.symm ls4 (Nat.le_of_ble_eq_true rfl) hcap (by decide +kernel) ?_
  intro H2 locs2 hPM2 hDM2 hap2 hPX2 hS2
  exact lv_icmp_eq (off := 645) (tgt := 1068) ex eb (by decide +kernel) (by decide) (fun _ => K hx1 hm1 H2 locs2 ⟨R1, hPX2, hDX1, hPM2, hDM2, hap2.symm, hS2⟩) (fun q => absurd rfl q)
set_option maxHeartbeats 4000000 in
theorem lw_case_row {p : Program} {l : Launch} {e : Env} {s : State} {m : MethodId} {args : Array Value} {below : List Frame} {meth : Method} {c : Code} {H : Heap} {locs : List Loc} {cells slots : Nat} {Q : State → Prop} {D : va_G} {cA : Nat → ClassId} {adX adM : Nat → Nat} {A0 : Nat → Prop} {hx hm : aH} {ls : Array Slot} {b L : Nat} {xs : Nat → Int32} {x : Int32} (F : lw_Fx p l s m args c D cA adX adM A0 b L xs) (I : lw_I D cA adX adM A0 s hx hm H locs) (hl : lw_Ls ls b adX adM x) (hcap : cells ≤ 600000 ∧ slots ≤ 7302250) (hin : ∀ k : Nat, k < 4 → vp_in (x + Int32.ofInt (k + 1)) L) (K : ∀ (hx1 hm1 : aH) (H1 : Heap) (locs1 : List Loc), lw_I D cA adX adM A0 s hx1 hm1 H1 locs1 → W p l e room_1 s m args below meth c H1 locs1 cells slots Q (F0 m 1068 ls [])) : W p l e room_1 s m args below meth c H locs cells slots Q (F0 m 428 ls []) := by
  obtain ⟨ex, eb, eml, eow, ets, eck, eX1, eM1, eAs, eX, el, eA⟩ := F
  obtain ⟨R, hPX, hDX, hPM, hDM, hap, hS⟩ := I
  obtain ⟨ls4, l0, l1, l2, l3⟩ := hl
  obtain ⟨v, hx1, hm1, gx, gm, R1⟩ := q_row (p0 := (xs (x + Int32.ofInt 1).toNatClampNeg)) (p1 := (xs (x + Int32.ofInt 2).toNatClampNeg)) R
  have z0 := R.sz
  have z1 := R1.sz
  refine lv_aload_n (k := 1) ex eb (by decide +kernel) rfl l1 ?_
  refine lw_arg ex eb eX el eA hS l0 l3 429 1 ⟨by decide +kernel, by decide +kernel, by decide +kernel, by decide +kernel, by decide +kernel⟩ (hin 0 (by decide)) ?_
  refine lw_arg ex eb eX el eA hS l0 l3 434 2 ⟨by decide +kernel, by decide +kernel, by decide +kernel, by decide +kernel, by decide +kernel⟩ (hin 1 (by decide)) ?_
  refine lw_cv eck 66 57 606 439 [.int (xs (x + Int32.ofInt 1).toNatClampNeg), .int (xs (x + Int32.ofInt 2).toNatClampNeg)] [] ex eb eml eow ets (by decide +kernel) (by decide +kernel) (by decide +kernel) (by decide +kernel) (by decide +kernel) rfl rfl (Nat.le_of_ble_eq_true rfl) gx (by omega) (by omega) R.ob.1 eX1 hPX hDX hS eAs hPM hap ls4 (Nat.le_of_ble_eq_true rfl) hcap (by decide +kernel) ?_
  intro H1 locs1 hPX1 hDX1 hap1 hPM1 hS1
  refine lv_aload_n (k := 2) ex eb (by decide +kernel) rfl l2 ?_
  refine lw_arg ex eb eX el eA hS1 l0 l3 443 1 ⟨by decide +kernel, by decide +kernel, by decide +kernel, by decide +kernel, by decide +kernel⟩ (hin 0 (by decide)) ?_
  refine lw_arg ex eb eX el eA hS1 l0 l3 448 2 ⟨by decide +kernel, by decide +kernel, by decide +kernel, by decide +kernel, by decide +kernel⟩ (hin 1 (by decide)) ?_
  refine lw_cv eck 152 60 1084 453 [.int (xs (x + Int32.ofInt 1).toNatClampNeg), .int (xs (x + Int32.ofInt 2).toNatClampNeg)] [.int v] ex eb eml eow ets (by decide +kernel) (by decide +kernel) (by decide +kernel) (by decide +kernel) (by decide +kernel) rfl rfl (Nat.le_of_ble_eq_true rfl) gm (by omega) (by omega) R.ob.2 eM1 hPM1 hDM hS1 eAs hPX1 hap1.symm ls4 (Nat.le_of_ble_eq_true rfl) hcap (by decide +kernel) ?_
  intro H2 locs2 hPM2 hDM2 hap2 hPX2 hS2
  exact lv_icmp_eq (off := 612) (tgt := 1068) ex eb (by decide +kernel) (by decide) (fun _ => K hx1 hm1 H2 locs2 ⟨R1, hPX2, hDX1, hPM2, hDM2, hap2.symm, hS2⟩) (fun q => absurd rfl q)
set_option maxHeartbeats 4000000 in
theorem lw_case_reading {p : Program} {l : Launch} {e : Env} {s : State} {m : MethodId} {args : Array Value} {below : List Frame} {meth : Method} {c : Code} {H : Heap} {locs : List Loc} {cells slots : Nat} {Q : State → Prop} {D : va_G} {cA : Nat → ClassId} {adX adM : Nat → Nat} {A0 : Nat → Prop} {hx hm : aH} {ls : Array Slot} {b L : Nat} {xs : Nat → Int32} {x : Int32} (F : lw_Fx p l s m args c D cA adX adM A0 b L xs) (I : lw_I D cA adX adM A0 s hx hm H locs) (hl : lw_Ls ls b adX adM x) (hcap : cells ≤ 600000 ∧ slots ≤ 7302250) (hin : ∀ k : Nat, k < 4 → vp_in (x + Int32.ofInt (k + 1)) L) (K : ∀ (hx1 hm1 : aH) (H1 : Heap) (locs1 : List Loc), lw_I D cA adX adM A0 s hx1 hm1 H1 locs1 → W p l e room_1 s m args below meth c H1 locs1 cells slots Q (F0 m 1068 ls [])) : W p l e room_1 s m args below meth c H locs cells slots Q (F0 m 461 ls []) := by
  obtain ⟨ex, eb, eml, eow, ets, eck, eX1, eM1, eAs, eX, el, eA⟩ := F
  obtain ⟨R, hPX, hDX, hPM, hDM, hap, hS⟩ := I
  obtain ⟨ls4, l0, l1, l2, l3⟩ := hl
  obtain ⟨v, hx1, hm1, gx, gm, R1⟩ := q_reading (p0 := (xs (x + Int32.ofInt 1).toNatClampNeg)) R
  have z0 := R.sz
  have z1 := R1.sz
  refine lv_aload_n (k := 1) ex eb (by decide +kernel) rfl l1 ?_
  refine lw_arg ex eb eX el eA hS l0 l3 462 1 ⟨by decide +kernel, by decide +kernel, by decide +kernel, by decide +kernel, by decide +kernel⟩ (hin 0 (by decide)) ?_
  refine lw_cv eck 67 61 610 467 [.int (xs (x + Int32.ofInt 1).toNatClampNeg)] [] ex eb eml eow ets (by decide +kernel) (by decide +kernel) (by decide +kernel) (by decide +kernel) (by decide +kernel) rfl rfl (Nat.le_of_ble_eq_true rfl) gx (by omega) (by omega) R.ob.1 eX1 hPX hDX hS eAs hPM hap ls4 (Nat.le_of_ble_eq_true rfl) hcap (by decide +kernel) ?_
  intro H1 locs1 hPX1 hDX1 hap1 hPM1 hS1
  refine lv_aload_n (k := 2) ex eb (by decide +kernel) rfl l2 ?_
  refine lw_arg ex eb eX el eA hS1 l0 l3 471 1 ⟨by decide +kernel, by decide +kernel, by decide +kernel, by decide +kernel, by decide +kernel⟩ (hin 0 (by decide)) ?_
  refine lw_cv eck 153 64 1088 476 [.int (xs (x + Int32.ofInt 1).toNatClampNeg)] [.int v] ex eb eml eow ets (by decide +kernel) (by decide +kernel) (by decide +kernel) (by decide +kernel) (by decide +kernel) rfl rfl (Nat.le_of_ble_eq_true rfl) gm (by omega) (by omega) R.ob.2 eM1 hPM1 hDM hS1 eAs hPX1 hap1.symm ls4 (Nat.le_of_ble_eq_true rfl) hcap (by decide +kernel) ?_
  intro H2 locs2 hPM2 hDM2 hap2 hPX2 hS2
  exact lv_icmp_eq (off := 589) (tgt := 1068) ex eb (by decide +kernel) (by decide) (fun _ => K hx1 hm1 H2 locs2 ⟨R1, hPX2, hDX1, hPM2, hDM2, hap2.symm, hS2⟩) (fun q => absurd rfl q)
set_option maxHeartbeats 4000000 in
theorem lw_case_holds {p : Program} {l : Launch} {e : Env} {s : State} {m : MethodId} {args : Array Value} {below : List Frame} {meth : Method} {c : Code} {H : Heap} {locs : List Loc} {cells slots : Nat} {Q : State → Prop} {D : va_G} {cA : Nat → ClassId} {adX adM : Nat → Nat} {A0 : Nat → Prop} {hx hm : aH} {ls : Array Slot} {b L : Nat} {xs : Nat → Int32} {x : Int32} (F : lw_Fx p l s m args c D cA adX adM A0 b L xs) (I : lw_I D cA adX adM A0 s hx hm H locs) (hl : lw_Ls ls b adX adM x) (hcap : cells ≤ 600000 ∧ slots ≤ 7302250) (hin : ∀ k : Nat, k < 4 → vp_in (x + Int32.ofInt (k + 1)) L) (K : ∀ (hx1 hm1 : aH) (H1 : Heap) (locs1 : List Loc), lw_I D cA adX adM A0 s hx1 hm1 H1 locs1 → W p l e room_1 s m args below meth c H1 locs1 cells slots Q (F0 m 1068 ls [])) : W p l e room_1 s m args below meth c H locs cells slots Q (F0 m 484 ls []) := by
  obtain ⟨ex, eb, eml, eow, ets, eck, eX1, eM1, eAs, eX, el, eA⟩ := F
  obtain ⟨R, hPX, hDX, hPM, hDM, hap, hS⟩ := I
  obtain ⟨ls4, l0, l1, l2, l3⟩ := hl
  obtain ⟨v, hx1, hm1, gx, gm, R1⟩ := q_holds (p0 := (xs (x + Int32.ofInt 1).toNatClampNeg)) R
  have z0 := R.sz
  have z1 := R1.sz
  refine lv_aload_n (k := 1) ex eb (by decide +kernel) rfl l1 ?_
  refine lw_arg ex eb eX el eA hS l0 l3 485 1 ⟨by decide +kernel, by decide +kernel, by decide +kernel, by decide +kernel, by decide +kernel⟩ (hin 0 (by decide)) ?_
  refine lw_cv eck 68 65 617 490 [.int (xs (x + Int32.ofInt 1).toNatClampNeg)] [] ex eb eml eow ets (by decide +kernel) (by decide +kernel) (by decide +kernel) (by decide +kernel) (by decide +kernel) rfl rfl (Nat.le_of_ble_eq_true rfl) gx (by omega) (by omega) R.ob.1 eX1 hPX hDX hS eAs hPM hap ls4 (Nat.le_of_ble_eq_true rfl) hcap (by decide +kernel) ?_
  intro H1 locs1 hPX1 hDX1 hap1 hPM1 hS1
  refine lv_aload_n (k := 2) ex eb (by decide +kernel) rfl l2 ?_
  refine lw_arg ex eb eX el eA hS1 l0 l3 494 1 ⟨by decide +kernel, by decide +kernel, by decide +kernel, by decide +kernel, by decide +kernel⟩ (hin 0 (by decide)) ?_
  refine lw_cv eck 155 68 1092 499 [.int (xs (x + Int32.ofInt 1).toNatClampNeg)] [.int v] ex eb eml eow ets (by decide +kernel) (by decide +kernel) (by decide +kernel) (by decide +kernel) (by decide +kernel) rfl rfl (Nat.le_of_ble_eq_true rfl) gm (by omega) (by omega) R.ob.2 eM1 hPM1 hDM hS1 eAs hPX1 hap1.symm ls4 (Nat.le_of_ble_eq_true rfl) hcap (by decide +kernel) ?_
  intro H2 locs2 hPM2 hDM2 hap2 hPX2 hS2
  exact lv_icmp_eq (off := 566) (tgt := 1068) ex eb (by decide +kernel) (by decide) (fun _ => K hx1 hm1 H2 locs2 ⟨R1, hPX2, hDX1, hPM2, hDM2, hap2.symm, hS2⟩) (fun q => absurd rfl q)
set_option maxHeartbeats 4000000 in
theorem lw_case_small {p : Program} {l : Launch} {e : Env} {s : State} {m : MethodId} {args : Array Value} {below : List Frame} {meth : Method} {c : Code} {H : Heap} {locs : List Loc} {cells slots : Nat} {Q : State → Prop} {D : va_G} {cA : Nat → ClassId} {adX adM : Nat → Nat} {A0 : Nat → Prop} {hx hm : aH} {ls : Array Slot} {b L : Nat} {xs : Nat → Int32} {x : Int32} (F : lw_Fx p l s m args c D cA adX adM A0 b L xs) (I : lw_I D cA adX adM A0 s hx hm H locs) (hl : lw_Ls ls b adX adM x) (hcap : cells ≤ 600000 ∧ slots ≤ 7302250) (hin : ∀ k : Nat, k < 4 → vp_in (x + Int32.ofInt (k + 1)) L) (K : ∀ (hx1 hm1 : aH) (H1 : Heap) (locs1 : List Loc), lw_I D cA adX adM A0 s hx1 hm1 H1 locs1 → W p l e room_1 s m args below meth c H1 locs1 cells slots Q (F0 m 1068 ls [])) : W p l e room_1 s m args below meth c H locs cells slots Q (F0 m 507 ls []) := by
  obtain ⟨ex, eb, eml, eow, ets, eck, eX1, eM1, eAs, eX, el, eA⟩ := F
  obtain ⟨R, hPX, hDX, hPM, hDM, hap, hS⟩ := I
  obtain ⟨ls4, l0, l1, l2, l3⟩ := hl
  obtain ⟨v, hx1, hm1, gx, gm, R1⟩ := q_small (p0 := (xs (x + Int32.ofInt 1).toNatClampNeg)) (p1 := (xs (x + Int32.ofInt 2).toNatClampNeg)) R
  have z0 := R.sz
  have z1 := R1.sz
  refine lv_aload_n (k := 1) ex eb (by decide +kernel) rfl l1 ?_
  refine lw_arg ex eb eX el eA hS l0 l3 508 1 ⟨by decide +kernel, by decide +kernel, by decide +kernel, by decide +kernel, by decide +kernel⟩ (hin 0 (by decide)) ?_
  refine lw_arg ex eb eX el eA hS l0 l3 513 2 ⟨by decide +kernel, by decide +kernel, by decide +kernel, by decide +kernel, by decide +kernel⟩ (hin 1 (by decide)) ?_
  refine lw_cv eck 69 69 629 518 [.int (xs (x + Int32.ofInt 1).toNatClampNeg), .int (xs (x + Int32.ofInt 2).toNatClampNeg)] [] ex eb eml eow ets (by decide +kernel) (by decide +kernel) (by decide +kernel) (by decide +kernel) (by decide +kernel) rfl rfl (Nat.le_of_ble_eq_true rfl) gx (by omega) (by omega) R.ob.1 eX1 hPX hDX hS eAs hPM hap ls4 (Nat.le_of_ble_eq_true rfl) hcap (by decide +kernel) ?_
  intro H1 locs1 hPX1 hDX1 hap1 hPM1 hS1
  refine lv_aload_n (k := 2) ex eb (by decide +kernel) rfl l2 ?_
  refine lw_arg ex eb eX el eA hS1 l0 l3 522 1 ⟨by decide +kernel, by decide +kernel, by decide +kernel, by decide +kernel, by decide +kernel⟩ (hin 0 (by decide)) ?_
  refine lw_arg ex eb eX el eA hS1 l0 l3 527 2 ⟨by decide +kernel, by decide +kernel, by decide +kernel, by decide +kernel, by decide +kernel⟩ (hin 1 (by decide)) ?_
  refine lw_cv eck 157 72 1100 532 [.int (xs (x + Int32.ofInt 1).toNatClampNeg), .int (xs (x + Int32.ofInt 2).toNatClampNeg)] [.int v] ex eb eml eow ets (by decide +kernel) (by decide +kernel) (by decide +kernel) (by decide +kernel) (by decide +kernel) rfl rfl (Nat.le_of_ble_eq_true rfl) gm (by omega) (by omega) R.ob.2 eM1 hPM1 hDM hS1 eAs hPX1 hap1.symm ls4 (Nat.le_of_ble_eq_true rfl) hcap (by decide +kernel) ?_
  intro H2 locs2 hPM2 hDM2 hap2 hPX2 hS2
  exact lv_icmp_eq (off := 533) (tgt := 1068) ex eb (by decide +kernel) (by decide) (fun _ => K hx1 hm1 H2 locs2 ⟨R1, hPX2, hDX1, hPM2, hDM2, hap2.symm, hS2⟩) (fun q => absurd rfl q)
set_option maxHeartbeats 4000000 in
theorem lw_case_many {p : Program} {l : Launch} {e : Env} {s : State} {m : MethodId} {args : Array Value} {below : List Frame} {meth : Method} {c : Code} {H : Heap} {locs : List Loc} {cells slots : Nat} {Q : State → Prop} {D : va_G} {cA : Nat → ClassId} {adX adM : Nat → Nat} {A0 : Nat → Prop} {hx hm : aH} {ls : Array Slot} {b L : Nat} {xs : Nat → Int32} {x : Int32} (F : lw_Fx p l s m args c D cA adX adM A0 b L xs) (I : lw_I D cA adX adM A0 s hx hm H locs) (hl : lw_Ls ls b adX adM x) (hcap : cells ≤ 600000 ∧ slots ≤ 7302250) (hin : ∀ k : Nat, k < 4 → vp_in (x + Int32.ofInt (k + 1)) L) (K : ∀ (hx1 hm1 : aH) (H1 : Heap) (locs1 : List Loc), lw_I D cA adX adM A0 s hx1 hm1 H1 locs1 → W p l e room_1 s m args below meth c H1 locs1 cells slots Q (F0 m 1068 ls [])) : W p l e room_1 s m args below meth c H locs cells slots Q (F0 m 540 ls []) := by
  obtain ⟨ex, eb, eml, eow, ets, eck, eX1, eM1, eAs, eX, el, eA⟩ := F
  obtain ⟨R, hPX, hDX, hPM, hDM, hap, hS⟩ := I
  obtain ⟨ls4, l0, l1, l2, l3⟩ := hl
  obtain ⟨v, hx1, hm1, gx, gm, R1⟩ := q_many (p0 := (xs (x + Int32.ofInt 1).toNatClampNeg)) R
  have z0 := R.sz
  have z1 := R1.sz
  refine lv_aload_n (k := 1) ex eb (by decide +kernel) rfl l1 ?_
  refine lw_arg ex eb eX el eA hS l0 l3 541 1 ⟨by decide +kernel, by decide +kernel, by decide +kernel, by decide +kernel, by decide +kernel⟩ (hin 0 (by decide)) ?_
  refine lw_cv eck 70 73 644 546 [.int (xs (x + Int32.ofInt 1).toNatClampNeg)] [] ex eb eml eow ets (by decide +kernel) (by decide +kernel) (by decide +kernel) (by decide +kernel) (by decide +kernel) rfl rfl (Nat.le_of_ble_eq_true rfl) gx (by omega) (by omega) R.ob.1 eX1 hPX hDX hS eAs hPM hap ls4 (Nat.le_of_ble_eq_true rfl) hcap (by decide +kernel) ?_
  intro H1 locs1 hPX1 hDX1 hap1 hPM1 hS1
  refine lv_aload_n (k := 2) ex eb (by decide +kernel) rfl l2 ?_
  refine lw_arg ex eb eX el eA hS1 l0 l3 550 1 ⟨by decide +kernel, by decide +kernel, by decide +kernel, by decide +kernel, by decide +kernel⟩ (hin 0 (by decide)) ?_
  refine lw_cv eck 158 76 1112 555 [.int (xs (x + Int32.ofInt 1).toNatClampNeg)] [.int v] ex eb eml eow ets (by decide +kernel) (by decide +kernel) (by decide +kernel) (by decide +kernel) (by decide +kernel) rfl rfl (Nat.le_of_ble_eq_true rfl) gm (by omega) (by omega) R.ob.2 eM1 hPM1 hDM hS1 eAs hPX1 hap1.symm ls4 (Nat.le_of_ble_eq_true rfl) hcap (by decide +kernel) ?_
  intro H2 locs2 hPM2 hDM2 hap2 hPX2 hS2
  exact lv_icmp_eq (off := 510) (tgt := 1068) ex eb (by decide +kernel) (by decide) (fun _ => K hx1 hm1 H2 locs2 ⟨R1, hPX2, hDX1, hPM2, hDM2, hap2.symm, hS2⟩) (fun q => absurd rfl q)
set_option maxHeartbeats 4000000 in
theorem lw_case_alike {p : Program} {l : Launch} {e : Env} {s : State} {m : MethodId} {args : Array Value} {below : List Frame} {meth : Method} {c : Code} {H : Heap} {locs : List Loc} {cells slots : Nat} {Q : State → Prop} {D : va_G} {cA : Nat → ClassId} {adX adM : Nat → Nat} {A0 : Nat → Prop} {hx hm : aH} {ls : Array Slot} {b L : Nat} {xs : Nat → Int32} {x : Int32} (F : lw_Fx p l s m args c D cA adX adM A0 b L xs) (I : lw_I D cA adX adM A0 s hx hm H locs) (hl : lw_Ls ls b adX adM x) (hcap : cells ≤ 600000 ∧ slots ≤ 7302250) (hin : ∀ k : Nat, k < 4 → vp_in (x + Int32.ofInt (k + 1)) L) (K : ∀ (hx1 hm1 : aH) (H1 : Heap) (locs1 : List Loc), lw_I D cA adX adM A0 s hx1 hm1 H1 locs1 → W p l e room_1 s m args below meth c H1 locs1 cells slots Q (F0 m 1068 ls [])) : W p l e room_1 s m args below meth c H locs cells slots Q (F0 m 563 ls []) := by
  obtain ⟨ex, eb, eml, eow, ets, eck, eX1, eM1, eAs, eX, el, eA⟩ := F
  obtain ⟨R, hPX, hDX, hPM, hDM, hap, hS⟩ := I
  obtain ⟨ls4, l0, l1, l2, l3⟩ := hl
  obtain ⟨v, hx1, hm1, gx, gm, R1⟩ := q_alike (p0 := (xs (x + Int32.ofInt 1).toNatClampNeg)) R
  have z0 := R.sz
  have z1 := R1.sz
  refine lv_aload_n (k := 1) ex eb (by decide +kernel) rfl l1 ?_
  refine lw_arg ex eb eX el eA hS l0 l3 564 1 ⟨by decide +kernel, by decide +kernel, by decide +kernel, by decide +kernel, by decide +kernel⟩ (hin 0 (by decide)) ?_
  refine lw_cv eck 71 77 658 569 [.int (xs (x + Int32.ofInt 1).toNatClampNeg)] [] ex eb eml eow ets (by decide +kernel) (by decide +kernel) (by decide +kernel) (by decide +kernel) (by decide +kernel) rfl rfl (Nat.le_of_ble_eq_true rfl) gx (by omega) (by omega) R.ob.1 eX1 hPX hDX hS eAs hPM hap ls4 (Nat.le_of_ble_eq_true rfl) hcap (by decide +kernel) ?_
  intro H1 locs1 hPX1 hDX1 hap1 hPM1 hS1
  refine lv_aload_n (k := 2) ex eb (by decide +kernel) rfl l2 ?_
  refine lw_arg ex eb eX el eA hS1 l0 l3 573 1 ⟨by decide +kernel, by decide +kernel, by decide +kernel, by decide +kernel, by decide +kernel⟩ (hin 0 (by decide)) ?_
  refine lw_cv eck 159 80 1116 578 [.int (xs (x + Int32.ofInt 1).toNatClampNeg)] [.int v] ex eb eml eow ets (by decide +kernel) (by decide +kernel) (by decide +kernel) (by decide +kernel) (by decide +kernel) rfl rfl (Nat.le_of_ble_eq_true rfl) gm (by omega) (by omega) R.ob.2 eM1 hPM1 hDM hS1 eAs hPX1 hap1.symm ls4 (Nat.le_of_ble_eq_true rfl) hcap (by decide +kernel) ?_
  intro H2 locs2 hPM2 hDM2 hap2 hPX2 hS2
  exact lv_icmp_eq (off := 487) (tgt := 1068) ex eb (by decide +kernel) (by decide) (fun _ => K hx1 hm1 H2 locs2 ⟨R1, hPX2, hDX1, hPM2, hDM2, hap2.symm, hS2⟩) (fun q => absurd rfl q)
set_option maxHeartbeats 4000000 in
theorem lw_case_entails {p : Program} {l : Launch} {e : Env} {s : State} {m : MethodId} {args : Array Value} {below : List Frame} {meth : Method} {c : Code} {H : Heap} {locs : List Loc} {cells slots : Nat} {Q : State → Prop} {D : va_G} {cA : Nat → ClassId} {adX adM : Nat → Nat} {A0 : Nat → Prop} {hx hm : aH} {ls : Array Slot} {b L : Nat} {xs : Nat → Int32} {x : Int32} (F : lw_Fx p l s m args c D cA adX adM A0 b L xs) (I : lw_I D cA adX adM A0 s hx hm H locs) (hl : lw_Ls ls b adX adM x) (hcap : cells ≤ 600000 ∧ slots ≤ 7302250) (hin : ∀ k : Nat, k < 4 → vp_in (x + Int32.ofInt (k + 1)) L) (K : ∀ (hx1 hm1 : aH) (H1 : Heap) (locs1 : List Loc), lw_I D cA adX adM A0 s hx1 hm1 H1 locs1 → W p l e room_1 s m args below meth c H1 locs1 cells slots Q (F0 m 1068 ls [])) : W p l e room_1 s m args below meth c H locs cells slots Q (F0 m 586 ls []) := by
  obtain ⟨ex, eb, eml, eow, ets, eck, eX1, eM1, eAs, eX, el, eA⟩ := F
  obtain ⟨R, hPX, hDX, hPM, hDM, hap, hS⟩ := I
  obtain ⟨ls4, l0, l1, l2, l3⟩ := hl
  obtain ⟨v, hx1, hm1, gx, gm, R1⟩ := q_entails (p0 := (xs (x + Int32.ofInt 1).toNatClampNeg)) (p1 := (xs (x + Int32.ofInt 2).toNatClampNeg)) R
  have z0 := R.sz
  have z1 := R1.sz
  refine lv_aload_n (k := 1) ex eb (by decide +kernel) rfl l1 ?_
  refine lw_arg ex eb eX el eA hS l0 l3 587 1 ⟨by decide +kernel, by decide +kernel, by decide +kernel, by decide +kernel, by decide +kernel⟩ (hin 0 (by decide)) ?_
  refine lw_arg ex eb eX el eA hS l0 l3 592 2 ⟨by decide +kernel, by decide +kernel, by decide +kernel, by decide +kernel, by decide +kernel⟩ (hin 1 (by decide)) ?_
  refine lw_cv eck 72 81 662 597 [.int (xs (x + Int32.ofInt 1).toNatClampNeg), .int (xs (x + Int32.ofInt 2).toNatClampNeg)] [] ex eb eml eow ets (by decide +kernel) (by decide +kernel) (by decide +kernel) (by decide +kernel) (by decide +kernel) rfl rfl (Nat.le_of_ble_eq_true rfl) gx (by omega) (by omega) R.ob.1 eX1 hPX hDX hS eAs hPM hap ls4 (Nat.le_of_ble_eq_true rfl) hcap (by decide +kernel) ?_
  intro H1 locs1 hPX1 hDX1 hap1 hPM1 hS1
  refine lv_aload_n (k := 2) ex eb (by decide +kernel) rfl l2 ?_
  refine lw_arg ex eb eX el eA hS1 l0 l3 601 1 ⟨by decide +kernel, by decide +kernel, by decide +kernel, by decide +kernel, by decide +kernel⟩ (hin 0 (by decide)) ?_
  refine lw_arg ex eb eX el eA hS1 l0 l3 606 2 ⟨by decide +kernel, by decide +kernel, by decide +kernel, by decide +kernel, by decide +kernel⟩ (hin 1 (by decide)) ?_
  refine lw_cv eck 160 84 1120 611 [.int (xs (x + Int32.ofInt 1).toNatClampNeg), .int (xs (x + Int32.ofInt 2).toNatClampNeg)] [.int v] ex eb eml eow ets (by decide +kernel) (by decide +kernel) (by decide +kernel) (by decide +kernel) (by decide +kernel) rfl rfl (Nat.le_of_ble_eq_true rfl) gm (by omega) (by omega) R.ob.2 eM1 hPM1 hDM hS1 eAs hPX1 hap1.symm ls4 (Nat.le_of_ble_eq_true rfl) hcap (by decide +kernel) ?_
  intro H2 locs2 hPM2 hDM2 hap2 hPX2 hS2
  exact lv_icmp_eq (off := 454) (tgt := 1068) ex eb (by decide +kernel) (by decide) (fun _ => K hx1 hm1 H2 locs2 ⟨R1, hPX2, hDX1, hPM2, hDM2, hap2.symm, hS2⟩) (fun q => absurd rfl q)
set_option maxHeartbeats 4000000 in
theorem lw_case_most {p : Program} {l : Launch} {e : Env} {s : State} {m : MethodId} {args : Array Value} {below : List Frame} {meth : Method} {c : Code} {H : Heap} {locs : List Loc} {cells slots : Nat} {Q : State → Prop} {D : va_G} {cA : Nat → ClassId} {adX adM : Nat → Nat} {A0 : Nat → Prop} {hx hm : aH} {ls : Array Slot} {b L : Nat} {xs : Nat → Int32} {x : Int32} (F : lw_Fx p l s m args c D cA adX adM A0 b L xs) (I : lw_I D cA adX adM A0 s hx hm H locs) (hl : lw_Ls ls b adX adM x) (hcap : cells ≤ 600000 ∧ slots ≤ 7302250) (hin : ∀ k : Nat, k < 4 → vp_in (x + Int32.ofInt (k + 1)) L) (K : ∀ (hx1 hm1 : aH) (H1 : Heap) (locs1 : List Loc), lw_I D cA adX adM A0 s hx1 hm1 H1 locs1 → W p l e room_1 s m args below meth c H1 locs1 cells slots Q (F0 m 1068 ls [])) : W p l e room_1 s m args below meth c H locs cells slots Q (F0 m 619 ls []) := by
  obtain ⟨ex, eb, eml, eow, ets, eck, eX1, eM1, eAs, eX, el, eA⟩ := F
  obtain ⟨R, hPX, hDX, hPM, hDM, hap, hS⟩ := I
  obtain ⟨ls4, l0, l1, l2, l3⟩ := hl
  obtain ⟨v, hx1, hm1, gx, gm, R1⟩ := q_most (p0 := (xs (x + Int32.ofInt 1).toNatClampNeg)) R
  have z0 := R.sz
  have z1 := R1.sz
  refine lv_aload_n (k := 1) ex eb (by decide +kernel) rfl l1 ?_
  refine lw_arg ex eb eX el eA hS l0 l3 620 1 ⟨by decide +kernel, by decide +kernel, by decide +kernel, by decide +kernel, by decide +kernel⟩ (hin 0 (by decide)) ?_
  refine lw_cv eck 73 85 674 625 [.int (xs (x + Int32.ofInt 1).toNatClampNeg)] [] ex eb eml eow ets (by decide +kernel) (by decide +kernel) (by decide +kernel) (by decide +kernel) (by decide +kernel) rfl rfl (Nat.le_of_ble_eq_true rfl) gx (by omega) (by omega) R.ob.1 eX1 hPX hDX hS eAs hPM hap ls4 (Nat.le_of_ble_eq_true rfl) hcap (by decide +kernel) ?_
  intro H1 locs1 hPX1 hDX1 hap1 hPM1 hS1
  refine lv_aload_n (k := 2) ex eb (by decide +kernel) rfl l2 ?_
  refine lw_arg ex eb eX el eA hS1 l0 l3 629 1 ⟨by decide +kernel, by decide +kernel, by decide +kernel, by decide +kernel, by decide +kernel⟩ (hin 0 (by decide)) ?_
  refine lw_cv eck 161 88 1128 634 [.int (xs (x + Int32.ofInt 1).toNatClampNeg)] [.int v] ex eb eml eow ets (by decide +kernel) (by decide +kernel) (by decide +kernel) (by decide +kernel) (by decide +kernel) rfl rfl (Nat.le_of_ble_eq_true rfl) gm (by omega) (by omega) R.ob.2 eM1 hPM1 hDM hS1 eAs hPX1 hap1.symm ls4 (Nat.le_of_ble_eq_true rfl) hcap (by decide +kernel) ?_
  intro H2 locs2 hPM2 hDM2 hap2 hPX2 hS2
  exact lv_icmp_eq (off := 431) (tgt := 1068) ex eb (by decide +kernel) (by decide) (fun _ => K hx1 hm1 H2 locs2 ⟨R1, hPX2, hDX1, hPM2, hDM2, hap2.symm, hS2⟩) (fun q => absurd rfl q)
set_option maxHeartbeats 4000000 in
theorem lw_case_witness {p : Program} {l : Launch} {e : Env} {s : State} {m : MethodId} {args : Array Value} {below : List Frame} {meth : Method} {c : Code} {H : Heap} {locs : List Loc} {cells slots : Nat} {Q : State → Prop} {D : va_G} {cA : Nat → ClassId} {adX adM : Nat → Nat} {A0 : Nat → Prop} {hx hm : aH} {ls : Array Slot} {b L : Nat} {xs : Nat → Int32} {x : Int32} (F : lw_Fx p l s m args c D cA adX adM A0 b L xs) (I : lw_I D cA adX adM A0 s hx hm H locs) (hl : lw_Ls ls b adX adM x) (hcap : cells ≤ 600000 ∧ slots ≤ 7302250) (hin : ∀ k : Nat, k < 4 → vp_in (x + Int32.ofInt (k + 1)) L) (K : ∀ (hx1 hm1 : aH) (H1 : Heap) (locs1 : List Loc), lw_I D cA adX adM A0 s hx1 hm1 H1 locs1 → W p l e room_1 s m args below meth c H1 locs1 cells slots Q (F0 m 1068 ls [])) : W p l e room_1 s m args below meth c H locs cells slots Q (F0 m 642 ls []) := by
  obtain ⟨ex, eb, eml, eow, ets, eck, eX1, eM1, eAs, eX, el, eA⟩ := F
  obtain ⟨R, hPX, hDX, hPM, hDM, hap, hS⟩ := I
  obtain ⟨ls4, l0, l1, l2, l3⟩ := hl
  obtain ⟨v, hx1, hm1, gx, gm, R1⟩ := q_witness (p0 := (xs (x + Int32.ofInt 1).toNatClampNeg)) (p1 := (xs (x + Int32.ofInt 2).toNatClampNeg)) R
  have z0 := R.sz
  have z1 := R1.sz
  refine lv_aload_n (k := 1) ex eb (by decide +kernel) rfl l1 ?_
  refine lw_arg ex eb eX el eA hS l0 l3 643 1 ⟨by decide +kernel, by decide +kernel, by decide +kernel, by decide +kernel, by decide +kernel⟩ (hin 0 (by decide)) ?_
  refine lw_arg ex eb eX el eA hS l0 l3 648 2 ⟨by decide +kernel, by decide +kernel, by decide +kernel, by decide +kernel, by decide +kernel⟩ (hin 1 (by decide)) ?_
  refine lw_cv eck 74 89 682 653 [.int (xs (x + Int32.ofInt 1).toNatClampNeg), .int (xs (x + Int32.ofInt 2).toNatClampNeg)] [] ex eb eml eow ets (by decide +kernel) (by decide +kernel) (by decide +kernel) (by decide +kernel) (by decide +kernel) rfl rfl (Nat.le_of_ble_eq_true rfl) gx (by omega) (by omega) R.ob.1 eX1 hPX hDX hS eAs hPM hap ls4 (Nat.le_of_ble_eq_true rfl) hcap (by decide +kernel) ?_
  intro H1 locs1 hPX1 hDX1 hap1 hPM1 hS1
  refine lv_aload_n (k := 2) ex eb (by decide +kernel) rfl l2 ?_
  refine lw_arg ex eb eX el eA hS1 l0 l3 657 1 ⟨by decide +kernel, by decide +kernel, by decide +kernel, by decide +kernel, by decide +kernel⟩ (hin 0 (by decide)) ?_
  refine lw_arg ex eb eX el eA hS1 l0 l3 662 2 ⟨by decide +kernel, by decide +kernel, by decide +kernel, by decide +kernel, by decide +kernel⟩ (hin 1 (by decide)) ?_
  refine lw_cv eck 162 92 1132 667 [.int (xs (x + Int32.ofInt 1).toNatClampNeg), .int (xs (x + Int32.ofInt 2).toNatClampNeg)] [.int v] ex eb eml eow ets (by decide +kernel) (by decide +kernel) (by decide +kernel) (by decide +kernel) (by decide +kernel) rfl rfl (Nat.le_of_ble_eq_true rfl) gm (by omega) (by omega) R.ob.2 eM1 hPM1 hDM hS1 eAs hPX1 hap1.symm ls4 (Nat.le_of_ble_eq_true rfl) hcap (by decide +kernel) ?_
  intro H2 locs2 hPM2 hDM2 hap2 hPX2 hS2
  exact lv_icmp_eq (off := 398) (tgt := 1068) ex eb (by decide +kernel) (by decide) (fun _ => K hx1 hm1 H2 locs2 ⟨R1, hPX2, hDX1, hPM2, hDM2, hap2.symm, hS2⟩) (fun q => absurd rfl q)
set_option maxHeartbeats 4000000 in
theorem lw_case_world {p : Program} {l : Launch} {e : Env} {s : State} {m : MethodId} {args : Array Value} {below : List Frame} {meth : Method} {c : Code} {H : Heap} {locs : List Loc} {cells slots : Nat} {Q : State → Prop} {D : va_G} {cA : Nat → ClassId} {adX adM : Nat → Nat} {A0 : Nat → Prop} {hx hm : aH} {ls : Array Slot} {b L : Nat} {xs : Nat → Int32} {x : Int32} (F : lw_Fx p l s m args c D cA adX adM A0 b L xs) (I : lw_I D cA adX adM A0 s hx hm H locs) (hl : lw_Ls ls b adX adM x) (hcap : cells ≤ 600000 ∧ slots ≤ 7302250) (hin : ∀ k : Nat, k < 4 → vp_in (x + Int32.ofInt (k + 1)) L) (K : ∀ (hx1 hm1 : aH) (H1 : Heap) (locs1 : List Loc), lw_I D cA adX adM A0 s hx1 hm1 H1 locs1 → W p l e room_1 s m args below meth c H1 locs1 cells slots Q (F0 m 1068 ls [])) : W p l e room_1 s m args below meth c H locs cells slots Q (F0 m 675 ls []) := by
  obtain ⟨ex, eb, eml, eow, ets, eck, eX1, eM1, eAs, eX, el, eA⟩ := F
  obtain ⟨R, hPX, hDX, hPM, hDM, hap, hS⟩ := I
  obtain ⟨ls4, l0, l1, l2, l3⟩ := hl
  obtain ⟨v, hx1, hm1, gx, gm, R1⟩ := q_world (p0 := (xs (x + Int32.ofInt 1).toNatClampNeg)) R
  have z0 := R.sz
  have z1 := R1.sz
  refine lv_aload_n (k := 1) ex eb (by decide +kernel) rfl l1 ?_
  refine lw_arg ex eb eX el eA hS l0 l3 676 1 ⟨by decide +kernel, by decide +kernel, by decide +kernel, by decide +kernel, by decide +kernel⟩ (hin 0 (by decide)) ?_
  refine lw_cv eck 75 93 686 681 [.int (xs (x + Int32.ofInt 1).toNatClampNeg)] [] ex eb eml eow ets (by decide +kernel) (by decide +kernel) (by decide +kernel) (by decide +kernel) (by decide +kernel) rfl rfl (Nat.le_of_ble_eq_true rfl) gx (by omega) (by omega) R.ob.1 eX1 hPX hDX hS eAs hPM hap ls4 (Nat.le_of_ble_eq_true rfl) hcap (by decide +kernel) ?_
  intro H1 locs1 hPX1 hDX1 hap1 hPM1 hS1
  refine lv_aload_n (k := 2) ex eb (by decide +kernel) rfl l2 ?_
  refine lw_arg ex eb eX el eA hS1 l0 l3 685 1 ⟨by decide +kernel, by decide +kernel, by decide +kernel, by decide +kernel, by decide +kernel⟩ (hin 0 (by decide)) ?_
  refine lw_cv eck 165 96 1147 690 [.int (xs (x + Int32.ofInt 1).toNatClampNeg)] [.int v] ex eb eml eow ets (by decide +kernel) (by decide +kernel) (by decide +kernel) (by decide +kernel) (by decide +kernel) rfl rfl (Nat.le_of_ble_eq_true rfl) gm (by omega) (by omega) R.ob.2 eM1 hPM1 hDM hS1 eAs hPX1 hap1.symm ls4 (Nat.le_of_ble_eq_true rfl) hcap (by decide +kernel) ?_
  intro H2 locs2 hPM2 hDM2 hap2 hPX2 hS2
  exact lv_icmp_eq (off := 375) (tgt := 1068) ex eb (by decide +kernel) (by decide) (fun _ => K hx1 hm1 H2 locs2 ⟨R1, hPX2, hDX1, hPM2, hDM2, hap2.symm, hS2⟩) (fun q => absurd rfl q)
set_option maxHeartbeats 4000000 in
theorem lw_case_things {p : Program} {l : Launch} {e : Env} {s : State} {m : MethodId} {args : Array Value} {below : List Frame} {meth : Method} {c : Code} {H : Heap} {locs : List Loc} {cells slots : Nat} {Q : State → Prop} {D : va_G} {cA : Nat → ClassId} {adX adM : Nat → Nat} {A0 : Nat → Prop} {hx hm : aH} {ls : Array Slot} {b L : Nat} {xs : Nat → Int32} {x : Int32} (F : lw_Fx p l s m args c D cA adX adM A0 b L xs) (I : lw_I D cA adX adM A0 s hx hm H locs) (hl : lw_Ls ls b adX adM x) (hcap : cells ≤ 600000 ∧ slots ≤ 7302250) (hin : ∀ k : Nat, k < 4 → vp_in (x + Int32.ofInt (k + 1)) L) (K : ∀ (hx1 hm1 : aH) (H1 : Heap) (locs1 : List Loc), lw_I D cA adX adM A0 s hx1 hm1 H1 locs1 → W p l e room_1 s m args below meth c H1 locs1 cells slots Q (F0 m 1068 ls [])) : W p l e room_1 s m args below meth c H locs cells slots Q (F0 m 698 ls []) := by
  obtain ⟨ex, eb, eml, eow, ets, eck, eX1, eM1, eAs, eX, el, eA⟩ := F
  obtain ⟨R, hPX, hDX, hPM, hDM, hap, hS⟩ := I
  obtain ⟨ls4, l0, l1, l2, l3⟩ := hl
  obtain ⟨v, hx1, hm1, gx, gm, R1⟩ := q_things (p0 := (xs (x + Int32.ofInt 1).toNatClampNeg)) R
  have z0 := R.sz
  have z1 := R1.sz
  refine lv_aload_n (k := 1) ex eb (by decide +kernel) rfl l1 ?_
  refine lw_arg ex eb eX el eA hS l0 l3 699 1 ⟨by decide +kernel, by decide +kernel, by decide +kernel, by decide +kernel, by decide +kernel⟩ (hin 0 (by decide)) ?_
  refine lw_cv eck 76 97 690 704 [.int (xs (x + Int32.ofInt 1).toNatClampNeg)] [] ex eb eml eow ets (by decide +kernel) (by decide +kernel) (by decide +kernel) (by decide +kernel) (by decide +kernel) rfl rfl (Nat.le_of_ble_eq_true rfl) gx (by omega) (by omega) R.ob.1 eX1 hPX hDX hS eAs hPM hap ls4 (Nat.le_of_ble_eq_true rfl) hcap (by decide +kernel) ?_
  intro H1 locs1 hPX1 hDX1 hap1 hPM1 hS1
  refine lv_aload_n (k := 2) ex eb (by decide +kernel) rfl l2 ?_
  refine lw_arg ex eb eX el eA hS1 l0 l3 708 1 ⟨by decide +kernel, by decide +kernel, by decide +kernel, by decide +kernel, by decide +kernel⟩ (hin 0 (by decide)) ?_
  refine lw_cv eck 166 100 1148 713 [.int (xs (x + Int32.ofInt 1).toNatClampNeg)] [.int v] ex eb eml eow ets (by decide +kernel) (by decide +kernel) (by decide +kernel) (by decide +kernel) (by decide +kernel) rfl rfl (Nat.le_of_ble_eq_true rfl) gm (by omega) (by omega) R.ob.2 eM1 hPM1 hDM hS1 eAs hPX1 hap1.symm ls4 (Nat.le_of_ble_eq_true rfl) hcap (by decide +kernel) ?_
  intro H2 locs2 hPM2 hDM2 hap2 hPX2 hS2
  exact lv_icmp_eq (off := 352) (tgt := 1068) ex eb (by decide +kernel) (by decide) (fun _ => K hx1 hm1 H2 locs2 ⟨R1, hPX2, hDX1, hPM2, hDM2, hap2.symm, hS2⟩) (fun q => absurd rfl q)
set_option maxHeartbeats 4000000 in
theorem lw_case_is {p : Program} {l : Launch} {e : Env} {s : State} {m : MethodId} {args : Array Value} {below : List Frame} {meth : Method} {c : Code} {H : Heap} {locs : List Loc} {cells slots : Nat} {Q : State → Prop} {D : va_G} {cA : Nat → ClassId} {adX adM : Nat → Nat} {A0 : Nat → Prop} {hx hm : aH} {ls : Array Slot} {b L : Nat} {xs : Nat → Int32} {x : Int32} (F : lw_Fx p l s m args c D cA adX adM A0 b L xs) (I : lw_I D cA adX adM A0 s hx hm H locs) (hl : lw_Ls ls b adX adM x) (hcap : cells ≤ 600000 ∧ slots ≤ 7302250) (hin : ∀ k : Nat, k < 4 → vp_in (x + Int32.ofInt (k + 1)) L) (K : ∀ (hx1 hm1 : aH) (H1 : Heap) (locs1 : List Loc), lw_I D cA adX adM A0 s hx1 hm1 H1 locs1 → W p l e room_1 s m args below meth c H1 locs1 cells slots Q (F0 m 1068 ls [])) : W p l e room_1 s m args below meth c H locs cells slots Q (F0 m 721 ls []) := by
  obtain ⟨ex, eb, eml, eow, ets, eck, eX1, eM1, eAs, eX, el, eA⟩ := F
  obtain ⟨R, hPX, hDX, hPM, hDM, hap, hS⟩ := I
  obtain ⟨ls4, l0, l1, l2, l3⟩ := hl
  obtain ⟨v, hx1, hm1, gx, gm, R1⟩ := q_is (p0 := (xs (x + Int32.ofInt 1).toNatClampNeg)) (p1 := (xs (x + Int32.ofInt 2).toNatClampNeg)) (p2 := (xs (x + Int32.ofInt 3).toNatClampNeg)) R
  have z0 := R.sz
  have z1 := R1.sz
  refine lv_aload_n (k := 1) ex eb (by decide +kernel) rfl l1 ?_
  refine lw_arg ex eb eX el eA hS l0 l3 722 1 ⟨by decide +kernel, by decide +kernel, by decide +kernel, by decide +kernel, by decide +kernel⟩ (hin 0 (by decide)) ?_
  refine lw_arg ex eb eX el eA hS l0 l3 727 2 ⟨by decide +kernel, by decide +kernel, by decide +kernel, by decide +kernel, by decide +kernel⟩ (hin 1 (by decide)) ?_
  refine lw_arg ex eb eX el eA hS l0 l3 732 3 ⟨by decide +kernel, by decide +kernel, by decide +kernel, by decide +kernel, by decide +kernel⟩ (hin 2 (by decide)) ?_
  refine lw_cv eck 77 101 695 737 [.int (xs (x + Int32.ofInt 1).toNatClampNeg), .int (xs (x + Int32.ofInt 2).toNatClampNeg), .int (xs (x + Int32.ofInt 3).toNatClampNeg)] [] ex eb eml eow ets (by decide +kernel) (by decide +kernel) (by decide +kernel) (by decide +kernel) (by decide +kernel) rfl rfl (Nat.le_of_ble_eq_true rfl) gx (by omega) (by omega) R.ob.1 eX1 hPX hDX hS eAs hPM hap ls4 (Nat.le_of_ble_eq_true rfl) hcap (by decide +kernel) ?_
  intro H1 locs1 hPX1 hDX1 hap1 hPM1 hS1
  refine lv_aload_n (k := 2) ex eb (by decide +kernel) rfl l2 ?_
  refine lw_arg ex eb eX el eA hS1 l0 l3 741 1 ⟨by decide +kernel, by decide +kernel, by decide +kernel, by decide +kernel, by decide +kernel⟩ (hin 0 (by decide)) ?_
  refine lw_arg ex eb eX el eA hS1 l0 l3 746 2 ⟨by decide +kernel, by decide +kernel, by decide +kernel, by decide +kernel, by decide +kernel⟩ (hin 1 (by decide)) ?_
  refine lw_arg ex eb eX el eA hS1 l0 l3 751 3 ⟨by decide +kernel, by decide +kernel, by decide +kernel, by decide +kernel, by decide +kernel⟩ (hin 2 (by decide)) ?_
  refine lw_cv eck 168 104 1153 756 [.int (xs (x + Int32.ofInt 1).toNatClampNeg), .int (xs (x + Int32.ofInt 2).toNatClampNeg), .int (xs (x + Int32.ofInt 3).toNatClampNeg)] [.int v] ex eb eml eow ets (by decide +kernel) (by decide +kernel) (by decide +kernel) (by decide +kernel) (by decide +kernel) rfl rfl (Nat.le_of_ble_eq_true rfl) gm (by omega) (by omega) R.ob.2 eM1 hPM1 hDM hS1 eAs hPX1 hap1.symm ls4 (Nat.le_of_ble_eq_true rfl) hcap (by decide +kernel) ?_
  intro H2 locs2 hPM2 hDM2 hap2 hPX2 hS2
  exact lv_icmp_eq (off := 309) (tgt := 1068) ex eb (by decide +kernel) (by decide) (fun _ => K hx1 hm1 H2 locs2 ⟨R1, hPX2, hDX1, hPM2, hDM2, hap2.symm, hS2⟩) (fun q => absurd rfl q)
set_option maxHeartbeats 4000000 in
theorem lw_case_does {p : Program} {l : Launch} {e : Env} {s : State} {m : MethodId} {args : Array Value} {below : List Frame} {meth : Method} {c : Code} {H : Heap} {locs : List Loc} {cells slots : Nat} {Q : State → Prop} {D : va_G} {cA : Nat → ClassId} {adX adM : Nat → Nat} {A0 : Nat → Prop} {hx hm : aH} {ls : Array Slot} {b L : Nat} {xs : Nat → Int32} {x : Int32} (F : lw_Fx p l s m args c D cA adX adM A0 b L xs) (I : lw_I D cA adX adM A0 s hx hm H locs) (hl : lw_Ls ls b adX adM x) (hcap : cells ≤ 600000 ∧ slots ≤ 7302250) (hin : ∀ k : Nat, k < 4 → vp_in (x + Int32.ofInt (k + 1)) L) (K : ∀ (hx1 hm1 : aH) (H1 : Heap) (locs1 : List Loc), lw_I D cA adX adM A0 s hx1 hm1 H1 locs1 → W p l e room_1 s m args below meth c H1 locs1 cells slots Q (F0 m 1068 ls [])) : W p l e room_1 s m args below meth c H locs cells slots Q (F0 m 764 ls []) := by
  obtain ⟨ex, eb, eml, eow, ets, eck, eX1, eM1, eAs, eX, el, eA⟩ := F
  obtain ⟨R, hPX, hDX, hPM, hDM, hap, hS⟩ := I
  obtain ⟨ls4, l0, l1, l2, l3⟩ := hl
  obtain ⟨v, hx1, hm1, gx, gm, R1⟩ := q_does (p0 := (xs (x + Int32.ofInt 1).toNatClampNeg)) (p1 := (xs (x + Int32.ofInt 2).toNatClampNeg)) (p2 := (xs (x + Int32.ofInt 3).toNatClampNeg)) (p3 := (xs (x + Int32.ofInt 4).toNatClampNeg)) R
  have z0 := R.sz
  have z1 := R1.sz
  refine lv_aload_n (k := 1) ex eb (by decide +kernel) rfl l1 ?_
  refine lw_arg ex eb eX el eA hS l0 l3 765 1 ⟨by decide +kernel, by decide +kernel, by decide +kernel, by decide +kernel, by decide +kernel⟩ (hin 0 (by decide)) ?_
  refine lw_arg ex eb eX el eA hS l0 l3 770 2 ⟨by decide +kernel, by decide +kernel, by decide +kernel, by decide +kernel, by decide +kernel⟩ (hin 1 (by decide)) ?_
  refine lw_arg ex eb eX el eA hS l0 l3 775 3 ⟨by decide +kernel, by decide +kernel, by decide +kernel, by decide +kernel, by decide +kernel⟩ (hin 2 (by decide)) ?_
  refine lw_arg ex eb eX el eA hS l0 l3 780 4 ⟨by decide +kernel, by decide +kernel, by decide +kernel, by decide +kernel, by decide +kernel⟩ (hin 3 (by decide)) ?_
  refine lw_cv eck 78 105 710 785 [.int (xs (x + Int32.ofInt 1).toNatClampNeg), .int (xs (x + Int32.ofInt 2).toNatClampNeg), .int (xs (x + Int32.ofInt 3).toNatClampNeg), .int (xs (x + Int32.ofInt 4).toNatClampNeg)] [] ex eb eml eow ets (by decide +kernel) (by decide +kernel) (by decide +kernel) (by decide +kernel) (by decide +kernel) rfl rfl (Nat.le_of_ble_eq_true rfl) gx (by omega) (by omega) R.ob.1 eX1 hPX hDX hS eAs hPM hap ls4 (Nat.le_of_ble_eq_true rfl) hcap (by decide +kernel) ?_
  intro H1 locs1 hPX1 hDX1 hap1 hPM1 hS1
  refine lv_aload_n (k := 2) ex eb (by decide +kernel) rfl l2 ?_
  refine lw_arg ex eb eX el eA hS1 l0 l3 789 1 ⟨by decide +kernel, by decide +kernel, by decide +kernel, by decide +kernel, by decide +kernel⟩ (hin 0 (by decide)) ?_
  refine lw_arg ex eb eX el eA hS1 l0 l3 794 2 ⟨by decide +kernel, by decide +kernel, by decide +kernel, by decide +kernel, by decide +kernel⟩ (hin 1 (by decide)) ?_
  refine lw_arg ex eb eX el eA hS1 l0 l3 799 3 ⟨by decide +kernel, by decide +kernel, by decide +kernel, by decide +kernel, by decide +kernel⟩ (hin 2 (by decide)) ?_
  refine lw_arg ex eb eX el eA hS1 l0 l3 804 4 ⟨by decide +kernel, by decide +kernel, by decide +kernel, by decide +kernel, by decide +kernel⟩ (hin 3 (by decide)) ?_
  refine lw_cv eck 169 109 1161 809 [.int (xs (x + Int32.ofInt 1).toNatClampNeg), .int (xs (x + Int32.ofInt 2).toNatClampNeg), .int (xs (x + Int32.ofInt 3).toNatClampNeg), .int (xs (x + Int32.ofInt 4).toNatClampNeg)] [.int v] ex eb eml eow ets (by decide +kernel) (by decide +kernel) (by decide +kernel) (by decide +kernel) (by decide +kernel) rfl rfl (Nat.le_of_ble_eq_true rfl) gm (by omega) (by omega) R.ob.2 eM1 hPM1 hDM hS1 eAs hPX1 hap1.symm ls4 (Nat.le_of_ble_eq_true rfl) hcap (by decide +kernel) ?_
  intro H2 locs2 hPM2 hDM2 hap2 hPX2 hS2
  exact lv_icmp_eq (off := 256) (tgt := 1068) ex eb (by decide +kernel) (by decide) (fun _ => K hx1 hm1 H2 locs2 ⟨R1, hPX2, hDX1, hPM2, hDM2, hap2.symm, hS2⟩) (fun q => absurd rfl q)
set_option maxHeartbeats 4000000 in
theorem lw_case_told {p : Program} {l : Launch} {e : Env} {s : State} {m : MethodId} {args : Array Value} {below : List Frame} {meth : Method} {c : Code} {H : Heap} {locs : List Loc} {cells slots : Nat} {Q : State → Prop} {D : va_G} {cA : Nat → ClassId} {adX adM : Nat → Nat} {A0 : Nat → Prop} {hx hm : aH} {ls : Array Slot} {b L : Nat} {xs : Nat → Int32} {x : Int32} (F : lw_Fx p l s m args c D cA adX adM A0 b L xs) (I : lw_I D cA adX adM A0 s hx hm H locs) (hl : lw_Ls ls b adX adM x) (hcap : cells ≤ 600000 ∧ slots ≤ 7302250) (hin : ∀ k : Nat, k < 4 → vp_in (x + Int32.ofInt (k + 1)) L) (K : ∀ (hx1 hm1 : aH) (H1 : Heap) (locs1 : List Loc), lw_I D cA adX adM A0 s hx1 hm1 H1 locs1 → W p l e room_1 s m args below meth c H1 locs1 cells slots Q (F0 m 1068 ls [])) : W p l e room_1 s m args below meth c H locs cells slots Q (F0 m 817 ls []) := by
  obtain ⟨ex, eb, eml, eow, ets, eck, eX1, eM1, eAs, eX, el, eA⟩ := F
  obtain ⟨R, hPX, hDX, hPM, hDM, hap, hS⟩ := I
  obtain ⟨ls4, l0, l1, l2, l3⟩ := hl
  obtain ⟨v, hx1, hm1, gx, gm, R1⟩ := q_told (p0 := (xs (x + Int32.ofInt 1).toNatClampNeg)) (p1 := (xs (x + Int32.ofInt 2).toNatClampNeg)) (p2 := (xs (x + Int32.ofInt 3).toNatClampNeg)) R
  have z0 := R.sz
  have z1 := R1.sz
  refine lv_aload_n (k := 1) ex eb (by decide +kernel) rfl l1 ?_
  refine lw_arg ex eb eX el eA hS l0 l3 818 1 ⟨by decide +kernel, by decide +kernel, by decide +kernel, by decide +kernel, by decide +kernel⟩ (hin 0 (by decide)) ?_
  refine lw_arg ex eb eX el eA hS l0 l3 823 2 ⟨by decide +kernel, by decide +kernel, by decide +kernel, by decide +kernel, by decide +kernel⟩ (hin 1 (by decide)) ?_
  refine lw_arg ex eb eX el eA hS l0 l3 828 3 ⟨by decide +kernel, by decide +kernel, by decide +kernel, by decide +kernel, by decide +kernel⟩ (hin 2 (by decide)) ?_
  refine lw_cv eck 79 110 715 833 [.int (xs (x + Int32.ofInt 1).toNatClampNeg), .int (xs (x + Int32.ofInt 2).toNatClampNeg), .int (xs (x + Int32.ofInt 3).toNatClampNeg)] [] ex eb eml eow ets (by decide +kernel) (by decide +kernel) (by decide +kernel) (by decide +kernel) (by decide +kernel) rfl rfl (Nat.le_of_ble_eq_true rfl) gx (by omega) (by omega) R.ob.1 eX1 hPX hDX hS eAs hPM hap ls4 (Nat.le_of_ble_eq_true rfl) hcap (by decide +kernel) ?_
  intro H1 locs1 hPX1 hDX1 hap1 hPM1 hS1
  refine lv_aload_n (k := 2) ex eb (by decide +kernel) rfl l2 ?_
  refine lw_arg ex eb eX el eA hS1 l0 l3 837 1 ⟨by decide +kernel, by decide +kernel, by decide +kernel, by decide +kernel, by decide +kernel⟩ (hin 0 (by decide)) ?_
  refine lw_arg ex eb eX el eA hS1 l0 l3 842 2 ⟨by decide +kernel, by decide +kernel, by decide +kernel, by decide +kernel, by decide +kernel⟩ (hin 1 (by decide)) ?_
  refine lw_arg ex eb eX el eA hS1 l0 l3 847 3 ⟨by decide +kernel, by decide +kernel, by decide +kernel, by decide +kernel, by decide +kernel⟩ (hin 2 (by decide)) ?_
  refine lw_cv eck 170 113 1165 852 [.int (xs (x + Int32.ofInt 1).toNatClampNeg), .int (xs (x + Int32.ofInt 2).toNatClampNeg), .int (xs (x + Int32.ofInt 3).toNatClampNeg)] [.int v] ex eb eml eow ets (by decide +kernel) (by decide +kernel) (by decide +kernel) (by decide +kernel) (by decide +kernel) rfl rfl (Nat.le_of_ble_eq_true rfl) gm (by omega) (by omega) R.ob.2 eM1 hPM1 hDM hS1 eAs hPX1 hap1.symm ls4 (Nat.le_of_ble_eq_true rfl) hcap (by decide +kernel) ?_
  intro H2 locs2 hPM2 hDM2 hap2 hPX2 hS2
  exact lv_icmp_eq (off := 213) (tgt := 1068) ex eb (by decide +kernel) (by decide) (fun _ => K hx1 hm1 H2 locs2 ⟨R1, hPX2, hDX1, hPM2, hDM2, hap2.symm, hS2⟩) (fun q => absurd rfl q)
set_option maxHeartbeats 4000000 in
theorem lw_case_keep {p : Program} {l : Launch} {e : Env} {s : State} {m : MethodId} {args : Array Value} {below : List Frame} {meth : Method} {c : Code} {H : Heap} {locs : List Loc} {cells slots : Nat} {Q : State → Prop} {D : va_G} {cA : Nat → ClassId} {adX adM : Nat → Nat} {A0 : Nat → Prop} {hx hm : aH} {ls : Array Slot} {b L : Nat} {xs : Nat → Int32} {x : Int32} (F : lw_Fx p l s m args c D cA adX adM A0 b L xs) (I : lw_I D cA adX adM A0 s hx hm H locs) (hl : lw_Ls ls b adX adM x) (hcap : cells ≤ 600000 ∧ slots ≤ 7302250) (hin : ∀ k : Nat, k < 4 → vp_in (x + Int32.ofInt (k + 1)) L) (K : ∀ (hx1 hm1 : aH) (H1 : Heap) (locs1 : List Loc), lw_I D cA adX adM A0 s hx1 hm1 H1 locs1 → W p l e room_1 s m args below meth c H1 locs1 cells slots Q (F0 m 1068 ls [])) : W p l e room_1 s m args below meth c H locs cells slots Q (F0 m 860 ls []) := by
  obtain ⟨ex, eb, eml, eow, ets, eck, eX1, eM1, eAs, eX, el, eA⟩ := F
  obtain ⟨R, hPX, hDX, hPM, hDM, hap, hS⟩ := I
  obtain ⟨ls4, l0, l1, l2, l3⟩ := hl
  obtain ⟨v, hx1, hm1, gx, gm, R1⟩ := q_keep (p0 := (xs (x + Int32.ofInt 1).toNatClampNeg)) R
  have z0 := R.sz
  have z1 := R1.sz
  refine lv_aload_n (k := 1) ex eb (by decide +kernel) rfl l1 ?_
  refine lw_arg ex eb eX el eA hS l0 l3 861 1 ⟨by decide +kernel, by decide +kernel, by decide +kernel, by decide +kernel, by decide +kernel⟩ (hin 0 (by decide)) ?_
  refine lw_cv eck 80 114 720 866 [.int (xs (x + Int32.ofInt 1).toNatClampNeg)] [] ex eb eml eow ets (by decide +kernel) (by decide +kernel) (by decide +kernel) (by decide +kernel) (by decide +kernel) rfl rfl (Nat.le_of_ble_eq_true rfl) gx (by omega) (by omega) R.ob.1 eX1 hPX hDX hS eAs hPM hap ls4 (Nat.le_of_ble_eq_true rfl) hcap (by decide +kernel) ?_
  intro H1 locs1 hPX1 hDX1 hap1 hPM1 hS1
  refine lv_aload_n (k := 2) ex eb (by decide +kernel) rfl l2 ?_
  refine lw_arg ex eb eX el eA hS1 l0 l3 870 1 ⟨by decide +kernel, by decide +kernel, by decide +kernel, by decide +kernel, by decide +kernel⟩ (hin 0 (by decide)) ?_
  refine lw_cv eck 171 117 1169 875 [.int (xs (x + Int32.ofInt 1).toNatClampNeg)] [.int v] ex eb eml eow ets (by decide +kernel) (by decide +kernel) (by decide +kernel) (by decide +kernel) (by decide +kernel) rfl rfl (Nat.le_of_ble_eq_true rfl) gm (by omega) (by omega) R.ob.2 eM1 hPM1 hDM hS1 eAs hPX1 hap1.symm ls4 (Nat.le_of_ble_eq_true rfl) hcap (by decide +kernel) ?_
  intro H2 locs2 hPM2 hDM2 hap2 hPX2 hS2
  exact lv_icmp_eq (off := 190) (tgt := 1068) ex eb (by decide +kernel) (by decide) (fun _ => K hx1 hm1 H2 locs2 ⟨R1, hPX2, hDX1, hPM2, hDM2, hap2.symm, hS2⟩) (fun q => absurd rfl q)
set_option maxHeartbeats 4000000 in
theorem lw_case_back {p : Program} {l : Launch} {e : Env} {s : State} {m : MethodId} {args : Array Value} {below : List Frame} {meth : Method} {c : Code} {H : Heap} {locs : List Loc} {cells slots : Nat} {Q : State → Prop} {D : va_G} {cA : Nat → ClassId} {adX adM : Nat → Nat} {A0 : Nat → Prop} {hx hm : aH} {ls : Array Slot} {b L : Nat} {xs : Nat → Int32} {x : Int32} (F : lw_Fx p l s m args c D cA adX adM A0 b L xs) (I : lw_I D cA adX adM A0 s hx hm H locs) (hl : lw_Ls ls b adX adM x) (hcap : cells ≤ 600000 ∧ slots ≤ 7302250) (hin : ∀ k : Nat, k < 4 → vp_in (x + Int32.ofInt (k + 1)) L) (K : ∀ (hx1 hm1 : aH) (H1 : Heap) (locs1 : List Loc), lw_I D cA adX adM A0 s hx1 hm1 H1 locs1 → W p l e room_1 s m args below meth c H1 locs1 cells slots Q (F0 m 1068 ls [])) : W p l e room_1 s m args below meth c H locs cells slots Q (F0 m 883 ls []) := by
  obtain ⟨ex, eb, eml, eow, ets, eck, eX1, eM1, eAs, eX, el, eA⟩ := F
  obtain ⟨R, hPX, hDX, hPM, hDM, hap, hS⟩ := I
  obtain ⟨ls4, l0, l1, l2, l3⟩ := hl
  obtain ⟨v, hx1, hm1, gx, gm, R1⟩ := q_back (p0 := (xs (x + Int32.ofInt 1).toNatClampNeg)) R
  have z0 := R.sz
  have z1 := R1.sz
  refine lv_aload_n (k := 1) ex eb (by decide +kernel) rfl l1 ?_
  refine lw_arg ex eb eX el eA hS l0 l3 884 1 ⟨by decide +kernel, by decide +kernel, by decide +kernel, by decide +kernel, by decide +kernel⟩ (hin 0 (by decide)) ?_
  refine lw_cv eck 81 118 728 889 [.int (xs (x + Int32.ofInt 1).toNatClampNeg)] [] ex eb eml eow ets (by decide +kernel) (by decide +kernel) (by decide +kernel) (by decide +kernel) (by decide +kernel) rfl rfl (Nat.le_of_ble_eq_true rfl) gx (by omega) (by omega) R.ob.1 eX1 hPX hDX hS eAs hPM hap ls4 (Nat.le_of_ble_eq_true rfl) hcap (by decide +kernel) ?_
  intro H1 locs1 hPX1 hDX1 hap1 hPM1 hS1
  refine lv_aload_n (k := 2) ex eb (by decide +kernel) rfl l2 ?_
  refine lw_arg ex eb eX el eA hS1 l0 l3 893 1 ⟨by decide +kernel, by decide +kernel, by decide +kernel, by decide +kernel, by decide +kernel⟩ (hin 0 (by decide)) ?_
  refine lw_cv eck 172 121 1173 898 [.int (xs (x + Int32.ofInt 1).toNatClampNeg)] [.int v] ex eb eml eow ets (by decide +kernel) (by decide +kernel) (by decide +kernel) (by decide +kernel) (by decide +kernel) rfl rfl (Nat.le_of_ble_eq_true rfl) gm (by omega) (by omega) R.ob.2 eM1 hPM1 hDM hS1 eAs hPX1 hap1.symm ls4 (Nat.le_of_ble_eq_true rfl) hcap (by decide +kernel) ?_
  intro H2 locs2 hPM2 hDM2 hap2 hPX2 hS2
  exact lv_icmp_eq (off := 167) (tgt := 1068) ex eb (by decide +kernel) (by decide) (fun _ => K hx1 hm1 H2 locs2 ⟨R1, hPX2, hDX1, hPM2, hDM2, hap2.symm, hS2⟩) (fun q => absurd rfl q)
set_option maxHeartbeats 4000000 in
theorem lw_case_sheet {p : Program} {l : Launch} {e : Env} {s : State} {m : MethodId} {args : Array Value} {below : List Frame} {meth : Method} {c : Code} {H : Heap} {locs : List Loc} {cells slots : Nat} {Q : State → Prop} {D : va_G} {cA : Nat → ClassId} {adX adM : Nat → Nat} {A0 : Nat → Prop} {hx hm : aH} {ls : Array Slot} {b L : Nat} {xs : Nat → Int32} {x : Int32} (F : lw_Fx p l s m args c D cA adX adM A0 b L xs) (I : lw_I D cA adX adM A0 s hx hm H locs) (hl : lw_Ls ls b adX adM x) (hcap : cells ≤ 600000 ∧ slots ≤ 7302250) (hin : ∀ k : Nat, k < 4 → vp_in (x + Int32.ofInt (k + 1)) L) (K : ∀ (hx1 hm1 : aH) (H1 : Heap) (locs1 : List Loc), lw_I D cA adX adM A0 s hx1 hm1 H1 locs1 → W p l e room_1 s m args below meth c H1 locs1 cells slots Q (F0 m 1068 ls [])) : W p l e room_1 s m args below meth c H locs cells slots Q (F0 m 906 ls []) := by
  obtain ⟨ex, eb, eml, eow, ets, eck, eX1, eM1, eAs, eX, el, eA⟩ := F
  obtain ⟨R, hPX, hDX, hPM, hDM, hap, hS⟩ := I
  obtain ⟨ls4, l0, l1, l2, l3⟩ := hl
  obtain ⟨v, hx1, hm1, gx, gm, R1⟩ := q_sheet (p0 := (xs (x + Int32.ofInt 1).toNatClampNeg)) (p1 := (xs (x + Int32.ofInt 2).toNatClampNeg)) (p2 := (xs (x + Int32.ofInt 3).toNatClampNeg)) R
  have z0 := R.sz
  have z1 := R1.sz
  refine lv_aload_n (k := 1) ex eb (by decide +kernel) rfl l1 ?_
  refine lw_arg ex eb eX el eA hS l0 l3 907 1 ⟨by decide +kernel, by decide +kernel, by decide +kernel, by decide +kernel, by decide +kernel⟩ (hin 0 (by decide)) ?_
  refine lw_arg ex eb eX el eA hS l0 l3 912 2 ⟨by decide +kernel, by decide +kernel, by decide +kernel, by decide +kernel, by decide +kernel⟩ (hin 1 (by decide)) ?_
  refine lw_arg ex eb eX el eA hS l0 l3 917 3 ⟨by decide +kernel, by decide +kernel, by decide +kernel, by decide +kernel, by decide +kernel⟩ (hin 2 (by decide)) ?_
  refine lw_cv eck 82 122 732 922 [.int (xs (x + Int32.ofInt 1).toNatClampNeg), .int (xs (x + Int32.ofInt 2).toNatClampNeg), .int (xs (x + Int32.ofInt 3).toNatClampNeg)] [] ex eb eml eow ets (by decide +kernel) (by decide +kernel) (by decide +kernel) (by decide +kernel) (by decide +kernel) rfl rfl (Nat.le_of_ble_eq_true rfl) gx (by omega) (by omega) R.ob.1 eX1 hPX hDX hS eAs hPM hap ls4 (Nat.le_of_ble_eq_true rfl) hcap (by decide +kernel) ?_
  intro H1 locs1 hPX1 hDX1 hap1 hPM1 hS1
  refine lv_aload_n (k := 2) ex eb (by decide +kernel) rfl l2 ?_
  refine lw_arg ex eb eX el eA hS1 l0 l3 926 1 ⟨by decide +kernel, by decide +kernel, by decide +kernel, by decide +kernel, by decide +kernel⟩ (hin 0 (by decide)) ?_
  refine lw_arg ex eb eX el eA hS1 l0 l3 931 2 ⟨by decide +kernel, by decide +kernel, by decide +kernel, by decide +kernel, by decide +kernel⟩ (hin 1 (by decide)) ?_
  refine lw_arg ex eb eX el eA hS1 l0 l3 936 3 ⟨by decide +kernel, by decide +kernel, by decide +kernel, by decide +kernel, by decide +kernel⟩ (hin 2 (by decide)) ?_
  refine lw_cv eck 174 125 1177 941 [.int (xs (x + Int32.ofInt 1).toNatClampNeg), .int (xs (x + Int32.ofInt 2).toNatClampNeg), .int (xs (x + Int32.ofInt 3).toNatClampNeg)] [.int v] ex eb eml eow ets (by decide +kernel) (by decide +kernel) (by decide +kernel) (by decide +kernel) (by decide +kernel) rfl rfl (Nat.le_of_ble_eq_true rfl) gm (by omega) (by omega) R.ob.2 eM1 hPM1 hDM hS1 eAs hPX1 hap1.symm ls4 (Nat.le_of_ble_eq_true rfl) hcap (by decide +kernel) ?_
  intro H2 locs2 hPM2 hDM2 hap2 hPX2 hS2
  exact lv_icmp_eq (off := 124) (tgt := 1068) ex eb (by decide +kernel) (by decide) (fun _ => K hx1 hm1 H2 locs2 ⟨R1, hPX2, hDX1, hPM2, hDM2, hap2.symm, hS2⟩) (fun q => absurd rfl q)
set_option maxHeartbeats 4000000 in
theorem lw_case_lay {p : Program} {l : Launch} {e : Env} {s : State} {m : MethodId} {args : Array Value} {below : List Frame} {meth : Method} {c : Code} {H : Heap} {locs : List Loc} {cells slots : Nat} {Q : State → Prop} {D : va_G} {cA : Nat → ClassId} {adX adM : Nat → Nat} {A0 : Nat → Prop} {hx hm : aH} {ls : Array Slot} {b L : Nat} {xs : Nat → Int32} {x : Int32} (F : lw_Fx p l s m args c D cA adX adM A0 b L xs) (I : lw_I D cA adX adM A0 s hx hm H locs) (hl : lw_Ls ls b adX adM x) (hcap : cells ≤ 600000 ∧ slots ≤ 7302250) (hin : ∀ k : Nat, k < 4 → vp_in (x + Int32.ofInt (k + 1)) L) (K : ∀ (hx1 hm1 : aH) (H1 : Heap) (locs1 : List Loc), lw_I D cA adX adM A0 s hx1 hm1 H1 locs1 → W p l e room_1 s m args below meth c H1 locs1 cells slots Q (F0 m 1068 ls [])) : W p l e room_1 s m args below meth c H locs cells slots Q (F0 m 949 ls []) := by
  obtain ⟨ex, eb, eml, eow, ets, eck, eX1, eM1, eAs, eX, el, eA⟩ := F
  obtain ⟨R, hPX, hDX, hPM, hDM, hap, hS⟩ := I
  obtain ⟨ls4, l0, l1, l2, l3⟩ := hl
  obtain ⟨v, hx1, hm1, gx, gm, R1⟩ := q_lay (p0 := (xs (x + Int32.ofInt 1).toNatClampNeg)) (p1 := (xs (x + Int32.ofInt 2).toNatClampNeg)) (p2 := (xs (x + Int32.ofInt 3).toNatClampNeg)) R
  have z0 := R.sz
  have z1 := R1.sz
  refine lv_aload_n (k := 1) ex eb (by decide +kernel) rfl l1 ?_
  refine lw_arg ex eb eX el eA hS l0 l3 950 1 ⟨by decide +kernel, by decide +kernel, by decide +kernel, by decide +kernel, by decide +kernel⟩ (hin 0 (by decide)) ?_
  refine lw_arg ex eb eX el eA hS l0 l3 955 2 ⟨by decide +kernel, by decide +kernel, by decide +kernel, by decide +kernel, by decide +kernel⟩ (hin 1 (by decide)) ?_
  refine lw_arg ex eb eX el eA hS l0 l3 960 3 ⟨by decide +kernel, by decide +kernel, by decide +kernel, by decide +kernel, by decide +kernel⟩ (hin 2 (by decide)) ?_
  refine lw_cv eck 83 126 746 965 [.int (xs (x + Int32.ofInt 1).toNatClampNeg), .int (xs (x + Int32.ofInt 2).toNatClampNeg), .int (xs (x + Int32.ofInt 3).toNatClampNeg)] [] ex eb eml eow ets (by decide +kernel) (by decide +kernel) (by decide +kernel) (by decide +kernel) (by decide +kernel) rfl rfl (Nat.le_of_ble_eq_true rfl) gx (by omega) (by omega) R.ob.1 eX1 hPX hDX hS eAs hPM hap ls4 (Nat.le_of_ble_eq_true rfl) hcap (by decide +kernel) ?_
  intro H1 locs1 hPX1 hDX1 hap1 hPM1 hS1
  refine lv_aload_n (k := 2) ex eb (by decide +kernel) rfl l2 ?_
  refine lw_arg ex eb eX el eA hS1 l0 l3 969 1 ⟨by decide +kernel, by decide +kernel, by decide +kernel, by decide +kernel, by decide +kernel⟩ (hin 0 (by decide)) ?_
  refine lw_arg ex eb eX el eA hS1 l0 l3 974 2 ⟨by decide +kernel, by decide +kernel, by decide +kernel, by decide +kernel, by decide +kernel⟩ (hin 1 (by decide)) ?_
  refine lw_arg ex eb eX el eA hS1 l0 l3 979 3 ⟨by decide +kernel, by decide +kernel, by decide +kernel, by decide +kernel, by decide +kernel⟩ (hin 2 (by decide)) ?_
  refine lw_cv eck 175 129 1184 984 [.int (xs (x + Int32.ofInt 1).toNatClampNeg), .int (xs (x + Int32.ofInt 2).toNatClampNeg), .int (xs (x + Int32.ofInt 3).toNatClampNeg)] [.int v] ex eb eml eow ets (by decide +kernel) (by decide +kernel) (by decide +kernel) (by decide +kernel) (by decide +kernel) rfl rfl (Nat.le_of_ble_eq_true rfl) gm (by omega) (by omega) R.ob.2 eM1 hPM1 hDM hS1 eAs hPX1 hap1.symm ls4 (Nat.le_of_ble_eq_true rfl) hcap (by decide +kernel) ?_
  intro H2 locs2 hPM2 hDM2 hap2 hPX2 hS2
  exact lv_icmp_eq (off := 81) (tgt := 1068) ex eb (by decide +kernel) (by decide) (fun _ => K hx1 hm1 H2 locs2 ⟨R1, hPX2, hDX1, hPM2, hDM2, hap2.symm, hS2⟩) (fun q => absurd rfl q)
set_option maxHeartbeats 4000000 in
theorem lw_case_read {p : Program} {l : Launch} {e : Env} {s : State} {m : MethodId} {args : Array Value} {below : List Frame} {meth : Method} {c : Code} {H : Heap} {locs : List Loc} {cells slots : Nat} {Q : State → Prop} {D : va_G} {cA : Nat → ClassId} {adX adM : Nat → Nat} {A0 : Nat → Prop} {hx hm : aH} {ls : Array Slot} {b L : Nat} {xs : Nat → Int32} {x : Int32} (F : lw_Fx p l s m args c D cA adX adM A0 b L xs) (I : lw_I D cA adX adM A0 s hx hm H locs) (hl : lw_Ls ls b adX adM x) (hcap : cells ≤ 600000 ∧ slots ≤ 7302250) (hin : ∀ k : Nat, k < 4 → vp_in (x + Int32.ofInt (k + 1)) L) (K : ∀ (hx1 hm1 : aH) (H1 : Heap) (locs1 : List Loc), lw_I D cA adX adM A0 s hx1 hm1 H1 locs1 → W p l e room_1 s m args below meth c H1 locs1 cells slots Q (F0 m 1068 ls [])) : W p l e room_1 s m args below meth c H locs cells slots Q (F0 m 992 ls []) := by
  obtain ⟨ex, eb, eml, eow, ets, eck, eX1, eM1, eAs, eX, el, eA⟩ := F
  obtain ⟨R, hPX, hDX, hPM, hDM, hap, hS⟩ := I
  obtain ⟨ls4, l0, l1, l2, l3⟩ := hl
  obtain ⟨v, hx1, hm1, gx, gm, R1⟩ := q_read (p0 := (xs (x + Int32.ofInt 1).toNatClampNeg)) (p1 := (xs (x + Int32.ofInt 2).toNatClampNeg)) (p2 := (xs (x + Int32.ofInt 3).toNatClampNeg)) (p3 := (xs (x + Int32.ofInt 4).toNatClampNeg)) R
  have z0 := R.sz
  have z1 := R1.sz
  refine lv_aload_n (k := 1) ex eb (by decide +kernel) rfl l1 ?_
  refine lw_arg ex eb eX el eA hS l0 l3 993 1 ⟨by decide +kernel, by decide +kernel, by decide +kernel, by decide +kernel, by decide +kernel⟩ (hin 0 (by decide)) ?_
  refine lw_arg ex eb eX el eA hS l0 l3 998 2 ⟨by decide +kernel, by decide +kernel, by decide +kernel, by decide +kernel, by decide +kernel⟩ (hin 1 (by decide)) ?_
  refine lw_arg ex eb eX el eA hS l0 l3 1003 3 ⟨by decide +kernel, by decide +kernel, by decide +kernel, by decide +kernel, by decide +kernel⟩ (hin 2 (by decide)) ?_
  refine lw_arg ex eb eX el eA hS l0 l3 1008 4 ⟨by decide +kernel, by decide +kernel, by decide +kernel, by decide +kernel, by decide +kernel⟩ (hin 3 (by decide)) ?_
  refine lw_cv eck 84 130 754 1013 [.int (xs (x + Int32.ofInt 1).toNatClampNeg), .int (xs (x + Int32.ofInt 2).toNatClampNeg), .int (xs (x + Int32.ofInt 3).toNatClampNeg), .int (xs (x + Int32.ofInt 4).toNatClampNeg)] [] ex eb eml eow ets (by decide +kernel) (by decide +kernel) (by decide +kernel) (by decide +kernel) (by decide +kernel) rfl rfl (Nat.le_of_ble_eq_true rfl) gx (by omega) (by omega) R.ob.1 eX1 hPX hDX hS eAs hPM hap ls4 (Nat.le_of_ble_eq_true rfl) hcap (by decide +kernel) ?_
  intro H1 locs1 hPX1 hDX1 hap1 hPM1 hS1
  refine lv_aload_n (k := 2) ex eb (by decide +kernel) rfl l2 ?_
  refine lw_arg ex eb eX el eA hS1 l0 l3 1017 1 ⟨by decide +kernel, by decide +kernel, by decide +kernel, by decide +kernel, by decide +kernel⟩ (hin 0 (by decide)) ?_
  refine lw_arg ex eb eX el eA hS1 l0 l3 1022 2 ⟨by decide +kernel, by decide +kernel, by decide +kernel, by decide +kernel, by decide +kernel⟩ (hin 1 (by decide)) ?_
  refine lw_arg ex eb eX el eA hS1 l0 l3 1027 3 ⟨by decide +kernel, by decide +kernel, by decide +kernel, by decide +kernel, by decide +kernel⟩ (hin 2 (by decide)) ?_
  refine lw_arg ex eb eX el eA hS1 l0 l3 1032 4 ⟨by decide +kernel, by decide +kernel, by decide +kernel, by decide +kernel, by decide +kernel⟩ (hin 3 (by decide)) ?_
  refine lw_cv eck 176 133 1188 1037 [.int (xs (x + Int32.ofInt 1).toNatClampNeg), .int (xs (x + Int32.ofInt 2).toNatClampNeg), .int (xs (x + Int32.ofInt 3).toNatClampNeg), .int (xs (x + Int32.ofInt 4).toNatClampNeg)] [.int v] ex eb eml eow ets (by decide +kernel) (by decide +kernel) (by decide +kernel) (by decide +kernel) (by decide +kernel) rfl rfl (Nat.le_of_ble_eq_true rfl) gm (by omega) (by omega) R.ob.2 eM1 hPM1 hDM hS1 eAs hPX1 hap1.symm ls4 (Nat.le_of_ble_eq_true rfl) hcap (by decide +kernel) ?_
  intro H2 locs2 hPM2 hDM2 hap2 hPX2 hS2
  exact lv_icmp_eq (off := 28) (tgt := 1068) ex eb (by decide +kernel) (by decide) (fun _ => K hx1 hm1 H2 locs2 ⟨R1, hPX2, hDX1, hPM2, hDM2, hap2.symm, hS2⟩) (fun q => absurd rfl q)
set_option maxHeartbeats 4000000 in
theorem lw_case_count {p : Program} {l : Launch} {e : Env} {s : State} {m : MethodId} {args : Array Value} {below : List Frame} {meth : Method} {c : Code} {H : Heap} {locs : List Loc} {cells slots : Nat} {Q : State → Prop} {D : va_G} {cA : Nat → ClassId} {adX adM : Nat → Nat} {A0 : Nat → Prop} {hx hm : aH} {ls : Array Slot} {b L : Nat} {xs : Nat → Int32} {x : Int32} (F : lw_Fx p l s m args c D cA adX adM A0 b L xs) (I : lw_I D cA adX adM A0 s hx hm H locs) (hl : lw_Ls ls b adX adM x) (hcap : cells ≤ 600000 ∧ slots ≤ 7302250) (hin : ∀ k : Nat, k < 4 → vp_in (x + Int32.ofInt (k + 1)) L) (K : ∀ (hx1 hm1 : aH) (H1 : Heap) (locs1 : List Loc), lw_I D cA adX adM A0 s hx1 hm1 H1 locs1 → W p l e room_1 s m args below meth c H1 locs1 cells slots Q (F0 m 1068 ls [])) : W p l e room_1 s m args below meth c H locs cells slots Q (F0 m 1045 ls []) := by
  obtain ⟨ex, eb, eml, eow, ets, eck, eX1, eM1, eAs, eX, el, eA⟩ := F
  obtain ⟨R, hPX, hDX, hPM, hDM, hap, hS⟩ := I
  obtain ⟨ls4, l0, l1, l2, l3⟩ := hl
  obtain ⟨v, hx1, hm1, gx, gm, R1⟩ := q_count (p0 := (xs (x + Int32.ofInt 1).toNatClampNeg)) R
  have z0 := R.sz
  have z1 := R1.sz
  refine lv_aload_n (k := 1) ex eb (by decide +kernel) rfl l1 ?_
  refine lw_arg ex eb eX el eA hS l0 l3 1046 1 ⟨by decide +kernel, by decide +kernel, by decide +kernel, by decide +kernel, by decide +kernel⟩ (hin 0 (by decide)) ?_
  refine lw_cv eck 85 134 767 1051 [.int (xs (x + Int32.ofInt 1).toNatClampNeg)] [] ex eb eml eow ets (by decide +kernel) (by decide +kernel) (by decide +kernel) (by decide +kernel) (by decide +kernel) rfl rfl (Nat.le_of_ble_eq_true rfl) gx (by omega) (by omega) R.ob.1 eX1 hPX hDX hS eAs hPM hap ls4 (Nat.le_of_ble_eq_true rfl) hcap (by decide +kernel) ?_
  intro H1 locs1 hPX1 hDX1 hap1 hPM1 hS1
  refine lv_aload_n (k := 2) ex eb (by decide +kernel) rfl l2 ?_
  refine lw_arg ex eb eX el eA hS1 l0 l3 1055 1 ⟨by decide +kernel, by decide +kernel, by decide +kernel, by decide +kernel, by decide +kernel⟩ (hin 0 (by decide)) ?_
  refine lw_cv eck 177 137 1192 1060 [.int (xs (x + Int32.ofInt 1).toNatClampNeg)] [.int v] ex eb eml eow ets (by decide +kernel) (by decide +kernel) (by decide +kernel) (by decide +kernel) (by decide +kernel) rfl rfl (Nat.le_of_ble_eq_true rfl) gm (by omega) (by omega) R.ob.2 eM1 hPM1 hDM hS1 eAs hPX1 hap1.symm ls4 (Nat.le_of_ble_eq_true rfl) hcap (by decide +kernel) ?_
  intro H2 locs2 hPM2 hDM2 hap2 hPX2 hS2
  exact lv_icmp_eq (off := 5) (tgt := 1068) ex eb (by decide +kernel) (by decide) (fun _ => K hx1 hm1 H2 locs2 ⟨R1, hPX2, hDX1, hPM2, hDM2, hap2.symm, hS2⟩) (fun q => absurd rfl q)
