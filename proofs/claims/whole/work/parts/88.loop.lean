/-! the law: its end, its entry, its loop -/
def R_law : String := "ScopedPhrasesLaw"
def lw_P (b : Addr) (xs : List Int32) (args : Array Value) (s : State) : Prop := args = #[.ref b] ∧ s.IntsAt b xs ∧ xs.length ≤ 2560 ∧ (Jvm.Cond.and given_1 narrow_1).before args s = true
def lw_Q (_ : Array Value) (s : State) (o : Outcome) (t : State) : Prop := o = .returned (some (.int 1)) ∧ Framed s o t [] 600000 7302250
def lw_Z (below : List Frame) (a : Array Value) (s : State) : State → Prop := fun t => ∃ o, t.status = .running ∧ Ended t below o ∧ lw_Q a s o t
/-- the law's own end, with 1 on the stack, nothing written that was there before, its room as the claim has it -/
theorem lw_ret {p : Program} {l : Launch} {e : Env} {s : State} {m : MethodId} {below : List Frame} {meth : Method} {c : Code} {b : Nat} (hx : p.tables.exec = Jvm.exec) (hb : c.code = code) (hr : meth.sig.returnType = ret) (hlocks : meth.locks = false) {pc : Nat} {H : Heap} {ls : Array Slot} (hdg : decode code pc = .ok (.ireturn, 1)) : W p l e room_1 s m #[Value.ref b] below meth c H [] 600000 7302250 (lw_Z below #[Value.ref b] s) (F0 m pc ls [.int 1]) := by
  intro T hT X
  obtain ⟨fs, hret, hrun, hended, hW, hframe⟩ := X.leave (v := some (.int 1)) (hlocks := hlocks) (fun h => by rw [hr] at h; cases h)
  have hmeth' : T.vm.method? m = some meth := X.method'
  refine ⟨T.setFrames fs, ?_, .returned (some (.int 1)), hrun, hended, rfl, ⟨_, rfl⟩, hW, hframe⟩
  jvm_step X.here [X.here.top, hx, hb, hdg, hmeth', hr, ret, narrow_b1]
  (try refine ⟨rfl, ?_⟩); (try refine ⟨rfl, ?_⟩)
  first | (intro acts; rw [hret _ acts rfl rfl rfl]) | rw [hret _ _ rfl rfl rfl]
  exact Steps.refl _
/-- what holds at the law's entry: the machine, the code, the tables' words (any of lw_tbl by 'hts w (by decide +kernel)'), the script of L ints xs at the cell b, what the Statement gives of the start (any of its parts by flat_of_before) -/
def lw_At (p : Program) (s : State) (m : MethodId) (meth : Method) (c : Code) (b L : Nat) (xs : Nat → Int32) : Prop :=
  p.tables.exec = Jvm.exec ∧ c.code = code ∧ meth.sig.returnType = ret ∧ c.maxLocals = 4 ∧ s.vm.findClass R_law = some m.cls ∧ (∀ w ∈ lw_tbl, w.before #[Value.ref b] s = true) ∧ va_X b L xs s s.heap ∧ b < s.heap.size ∧ meth.locks = false ∧ (Jvm.Cond.and given_1 narrow_1).before #[Value.ref b] s = true
theorem lw_swd : decode code 32 = .ok (.tableswitch 1036 0 29 #[136, 159, 182, 195, 208, 231, 264, 307, 330, 363, 396, 429, 452, 475, 508, 531, 554, 587, 610, 643, 666, 689, 732, 785, 828, 851, 874, 917, 960, 1013], 136) := by decide +kernel
theorem lw_tab {p : Program} {l : Launch} {e : Env} {s : State} {m : MethodId} {args : Array Value} {below : List Frame} {meth : Method} {c : Code} {H : Heap} {locs : List Loc} {cells slots : Nat} {Q : State → Prop} {ls : Array Slot} (hx : p.tables.exec = Jvm.exec) (hb : c.code = code) (k : Nat) {off : Int} {tgt : Nat} (hk : k < 30) (ho : (#[136, 159, 182, 195, 208, 231, 264, 307, 330, 363, 396, 429, 452, 475, 508, 531, 554, 587, 610, 643, 666, 689, 732, 785, 828, 851, 874, 917, 960, 1013] : Array Int)[k]? = some off) (ht : (32 : Int) + off = (tgt : Int)) (kk : W p l e room_1 s m args below meth c H locs cells slots Q (F0 m tgt ls [])) : W p l e room_1 s m args below meth c H locs cells slots Q (F0 m 32 ls [.int (nI k)]) := by
  have e := nI_toInt (n := k) (by omega)
  refine lv_tableIn (x := nI k) (off := off) (tgt := tgt) hx hb lw_swd (by rw [e]; omega) (by rw [e]; omega) ?_ ht kk
  rw [e]
  exact ho
theorem lw_tabo {p : Program} {l : Launch} {e : Env} {s : State} {m : MethodId} {args : Array Value} {below : List Frame} {meth : Method} {c : Code} {H : Heap} {locs : List Loc} {cells slots : Nat} {Q : State → Prop} {ls : Array Slot} (hx : p.tables.exec = Jvm.exec) (hb : c.code = code) (k : Nat) (hk : 30 ≤ k) (h2 : k < 32) (kk : W p l e room_1 s m args below meth c H locs cells slots Q (F0 m 1068 ls [])) : W p l e room_1 s m args below meth c H locs cells slots Q (F0 m 32 ls [.int (nI k)]) := by
  have e := nI_toInt (n := k) (by omega)
  exact lv_tableOut (x := nI k) (tgt := 1068) hx hb lw_swd (by rw [e]; omega) (by decide) kk
set_option maxHeartbeats 4000000 in
theorem lw_disp {p : Program} {l : Launch} {e : Env} {s : State} {m : MethodId} {args : Array Value} {below : List Frame} {meth : Method} {c : Code} {H : Heap} {locs : List Loc} {cells slots : Nat} {Q : State → Prop} {D : va_G} {cA : Nat → ClassId} {adX adM : Nat → Nat} {A0 : Nat → Prop} {hx hm : aH} {ls : Array Slot} {b L : Nat} {xs : Nat → Int32} {x : Int32} (F : lw_Fx p l s m args c D cA adX adM A0 b L xs) (I : lw_I D cA adX adM A0 s hx hm H locs) (hl : lw_Ls ls b adX adM x) (hcap : cells ≤ 600000 ∧ slots ≤ 7302250) (hin : ∀ k : Nat, k < 4 → vp_in (x + Int32.ofInt (k + 1)) L) (K : ∀ (hx1 hm1 : aH) (H1 : Heap) (locs1 : List Loc), lw_I D cA adX adM A0 s hx1 hm1 H1 locs1 → W p l e room_1 s m args below meth c H1 locs1 cells slots Q (F0 m 1068 ls [])) : ∀ k : Nat, k < 32 → W p l e room_1 s m args below meth c H locs cells slots Q (F0 m 32 ls [.int (nI k)])
  | 0, _ => lw_tab F.1 F.2.1 0 (off := 136) (tgt := 168) (by decide) rfl (by decide) (lw_case_feed F I hl hcap hin K)
  | 1, _ => lw_tab F.1 F.2.1 1 (off := 159) (tgt := 191) (by decide) rfl (by decide) (lw_case_end F I hl hcap hin K)
  | 2, _ => lw_tab F.1 F.2.1 2 (off := 182) (tgt := 214) (by decide) rfl (by decide) (lw_case_text F I hl hcap hin K)
  | 3, _ => lw_tab F.1 F.2.1 3 (off := 195) (tgt := 227) (by decide) rfl (by decide) (lw_case_fault F I hl hcap hin K)
  | 4, _ => lw_tab F.1 F.2.1 4 (off := 208) (tgt := 240) (by decide) rfl (by decide) (lw_case_rule F I hl hcap hin K)
  | 5, _ => lw_tab F.1 F.2.1 5 (off := 231) (tgt := 263) (by decide) rfl (by decide) (lw_case_phrase F I hl hcap hin K)
  | 6, _ => lw_tab F.1 F.2.1 6 (off := 264) (tgt := 296) (by decide) rfl (by decide) (lw_case_becomes F I hl hcap hin K)
  | 7, _ => lw_tab F.1 F.2.1 7 (off := 307) (tgt := 339) (by decide) rfl (by decide) (lw_case_draw F I hl hcap hin K)
  | 8, _ => lw_tab F.1 F.2.1 8 (off := 330) (tgt := 362) (by decide) rfl (by decide) (lw_case_within F I hl hcap hin K)
  | 9, _ => lw_tab F.1 F.2.1 9 (off := 363) (tgt := 395) (by decide) rfl (by decide) (lw_case_ahead F I hl hcap hin K)
  | 10, _ => lw_tab F.1 F.2.1 10 (off := 396) (tgt := 428) (by decide) rfl (by decide) (lw_case_row F I hl hcap hin K)
  | 11, _ => lw_tab F.1 F.2.1 11 (off := 429) (tgt := 461) (by decide) rfl (by decide) (lw_case_reading F I hl hcap hin K)
  | 12, _ => lw_tab F.1 F.2.1 12 (off := 452) (tgt := 484) (by decide) rfl (by decide) (lw_case_holds F I hl hcap hin K)
  | 13, _ => lw_tab F.1 F.2.1 13 (off := 475) (tgt := 507) (by decide) rfl (by decide) (lw_case_small F I hl hcap hin K)
  | 14, _ => lw_tab F.1 F.2.1 14 (off := 508) (tgt := 540) (by decide) rfl (by decide) (lw_case_many F I hl hcap hin K)
  | 15, _ => lw_tab F.1 F.2.1 15 (off := 531) (tgt := 563) (by decide) rfl (by decide) (lw_case_alike F I hl hcap hin K)
  | 16, _ => lw_tab F.1 F.2.1 16 (off := 554) (tgt := 586) (by decide) rfl (by decide) (lw_case_entails F I hl hcap hin K)
  | 17, _ => lw_tab F.1 F.2.1 17 (off := 587) (tgt := 619) (by decide) rfl (by decide) (lw_case_most F I hl hcap hin K)
  | 18, _ => lw_tab F.1 F.2.1 18 (off := 610) (tgt := 642) (by decide) rfl (by decide) (lw_case_witness F I hl hcap hin K)
  | 19, _ => lw_tab F.1 F.2.1 19 (off := 643) (tgt := 675) (by decide) rfl (by decide) (lw_case_world F I hl hcap hin K)
  | 20, _ => lw_tab F.1 F.2.1 20 (off := 666) (tgt := 698) (by decide) rfl (by decide) (lw_case_things F I hl hcap hin K)
  | 21, _ => lw_tab F.1 F.2.1 21 (off := 689) (tgt := 721) (by decide) rfl (by decide) (lw_case_is F I hl hcap hin K)
  | 22, _ => lw_tab F.1 F.2.1 22 (off := 732) (tgt := 764) (by decide) rfl (by decide) (lw_case_does F I hl hcap hin K)
  | 23, _ => lw_tab F.1 F.2.1 23 (off := 785) (tgt := 817) (by decide) rfl (by decide) (lw_case_told F I hl hcap hin K)
  | 24, _ => lw_tab F.1 F.2.1 24 (off := 828) (tgt := 860) (by decide) rfl (by decide) (lw_case_keep F I hl hcap hin K)
  | 25, _ => lw_tab F.1 F.2.1 25 (off := 851) (tgt := 883) (by decide) rfl (by decide) (lw_case_back F I hl hcap hin K)
  | 26, _ => lw_tab F.1 F.2.1 26 (off := 874) (tgt := 906) (by decide) rfl (by decide) (lw_case_sheet F I hl hcap hin K)
  | 27, _ => lw_tab F.1 F.2.1 27 (off := 917) (tgt := 949) (by decide) rfl (by decide) (lw_case_lay F I hl hcap hin K)
  | 28, _ => lw_tab F.1 F.2.1 28 (off := 960) (tgt := 992) (by decide) rfl (by decide) (lw_case_read F I hl hcap hin K)
  | 29, _ => lw_tab F.1 F.2.1 29 (off := 1013) (tgt := 1045) (by decide) rfl (by decide) (lw_case_count F I hl hcap hin K)
  | 30, _ => lw_tabo F.1 F.2.1 30 (by decide) (by decide) (K hx hm H locs I)
  | 31, _ => lw_tabo F.1 F.2.1 31 (by decide) (by decide) (K hx hm H locs I)
  | k + 32, h => absurd h (by omega)
theorem lw_k1 : ∀ k : Nat, k < 4 → Int32.ofInt ((k : Int) + 1) = nI (k + 1)
  | 0, _ => by decide
  | 1, _ => by decide
  | 2, _ => by decide
  | 3, _ => by decide
  | k + 4, h => absurd h (by omega)
set_option maxHeartbeats 4000000 in
theorem lw_loop {p : Program} {l : Launch} {e : Env} {s : State} {m : MethodId} {below : List Frame} {meth : Method} {c : Code} {cells slots : Nat} {D : va_G} {cA : Nat → ClassId} {adX adM : Nat → Nat} {b L : Nat} {xs : Nat → Int32} (hL : L ≤ 2560) (F : lw_Fx p l s m #[Value.ref b] c D cA adX adM (fun q => s.heap.size ≤ q) b L xs) (hr : meth.sig.returnType = ret) (hlocks : meth.locks = false) (hcap : cells ≤ 600000 ∧ slots ≤ 7302250) :
    ∀ (n i : Nat), i ≤ L → L + 1 ≤ i + n → ∀ (hx hm : aH) (H : Heap) (locs : List Loc), lw_I D cA adX adM (fun q => s.heap.size ≤ q) s hx hm H locs → ∀ (ls : Array Slot), lv_has ls 4 [(0, .ref b), (1, .ref (adX 0)), (2, .ref (adM 0)), (3, .int (nI i))] → W p l e room_1 s m #[Value.ref b] below meth c H locs cells slots (lw_Z below #[Value.ref b] s) (F0 m 18 ls []) := by
  have F0' := F
  obtain ⟨ex, eb, eml, eow, ets, eck, eX1, eM1, eAs, eX, el, eA⟩ := F0'
  intro n
  induction n with
  | zero =>
    intro i h1 h2
    exact absurd h2 (by omega)
  | succ n ih =>
    intro i hi hin hx hm H locs I ls hl
    have hS := I.2.2.2.2.2.2
    refine lv_iload_n ex eb (by decide +kernel : decode code 18 = .ok (.iload_n 3, 1)) rfl (lv_at hl 3 rfl) ?_
    refine lv_aload_n ex eb (by decide +kernel : decode code 19 = .ok (.aload_n 0, 1)) rfl (lv_at hl 0 rfl) ?_
    refine va_slen ex eb eX el eA hS (by decide +kernel : decode code 20 = .ok (.arraylength, 1)) ?_
    refine lv_iconst (v := 5) ex eb (by decide +kernel : decode code 21 = .ok (.iconst 5, 1)) (by decide) ?_
    refine lv_isub ex eb (by decide +kernel : decode code 22 = .ok (.isub, 1)) ?_
    refine lv_icmp_gt (off := 1051) (tgt := 1074) ex eb (by decide +kernel) (by decide) (fun cc => ?_) (fun cc => ?_)
    · refine lv_iconst (v := 1) ex eb (by decide +kernel : decode code 1074 = .ok (.iconst 1, 1)) (by decide) ?_
      refine va_forget (fun q hq => hS.2.2 q hq) ?_
      refine W.widen (k := 600000) (n := 7302250) hcap.1 hcap.2 ?_
      exact lw_ret ex eb hr hlocks (by decide +kernel)
    · have h5 : i + 5 ≤ L := lw_num hL hi cc
      refine lv_aload_n ex eb (by decide +kernel : decode code 26 = .ok (.aload_n 0, 1)) rfl (lv_at hl 0 rfl) ?_
      refine lv_iload_n ex eb (by decide +kernel : decode code 27 = .ok (.iload_n 3, 1)) rfl (lv_at hl 3 rfl) ?_
      refine va_sld ex eb eX el eA hS (vp_in_nI (by omega) (by omega)) (by decide +kernel : decode code 28 = .ok (.iaload, 1)) ?_
      refine lv_bipush (v := 31) ex eb (by decide +kernel : decode code 29 = .ok (.bipush 31, 2)) (by decide) ?_
      refine lv_iand ex eb (by decide +kernel : decode code 31 = .ok (.iand, 1)) ?_
      obtain ⟨k, hk, ek⟩ := lw_31 (xs (nI i).toNatClampNeg)
      rw [ek]
      refine lw_disp (x := nI i) F I ⟨hl.1, lv_at hl 0 rfl, lv_at hl 1 rfl, lv_at hl 2 rfl, lv_at hl 3 rfl⟩ hcap ?_ ?_ k hk
      · intro k hk
        rw [lw_k1 k hk, nI_add]
        exact vp_in_nI (by omega) (by omega)
      · intro hx1 hm1 H1 locs1 I1
        refine lv_iinc (v := nI (i + 5)) (lv' := [(3, .int (nI (i + 5))), (0, .ref b), (1, .ref (adX 0)), (2, .ref (adM 0))]) ex eb (by decide +kernel : decode code 1068 = .ok (.iinc 3 5, 3)) hl (k := 3) rfl (by rw [show Int32.ofInt 5 = nI 5 by decide, nI_add]) (by decide) rfl (fun ls hl => ?_)
        refine lv_goto (off := -1053) (tgt := 18) ex eb (by decide +kernel) (by decide) ?_
        exact ih (i + 5) h5 (by omega) hx1 hm1 H1 locs1 I1 ls (lv_sub hl [1, 2, 3, 0] rfl)
