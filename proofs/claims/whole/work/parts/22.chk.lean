/-! String.checkIndex and Preconditions.checkIndex, walked by hand -/
def ab_w3 : List Jvm.Cond := .code yJ3_checkIndex_8e157 cJ3_checkIndex_8e157 3 (some .int) :: ab_G
set_option maxRecDepth 100000 in
theorem ab_w3_code : Jvm.Cond.code yJ3_checkIndex_8e157 cJ3_checkIndex_8e157 3 (some .int) ∈ ab_G ∧ Jvm.Cond.static yJ3_checkIndex_8e157 ∈ ab_G ∧ Jvm.Cond.initialized "jdk/internal/util/Preconditions" ∈ ab_G ∧ Jvm.Cond.methodLink "java/lang/String" 1059 yJ3_checkIndex_8e157 ∈ ab_G ∧ Jvm.Cond.fieldLink "java/lang/String" 1053 "jdk/internal/util/Preconditions" "SIOOBE_FORMATTER" "Ljava/util/function/BiFunction;" ∈ ab_G :=
  ⟨List.mem_filter.mpr ⟨List.mem_of_getElem? (i := 431) rfl, by decide +kernel⟩, List.mem_filter.mpr ⟨List.mem_of_getElem? (i := 430) rfl, by decide +kernel⟩, List.mem_filter.mpr ⟨List.mem_of_getElem? (i := 77) rfl, by decide +kernel⟩, List.mem_filter.mpr ⟨List.mem_of_getElem? (i := 429) rfl, by decide +kernel⟩, List.mem_filter.mpr ⟨List.mem_of_getElem? (i := 427) rfl, by decide +kernel⟩⟩
theorem d3_0 : decode cJ3_checkIndex_8e157 0 = .ok (.iload_n 0, 1) := by decide +kernel
theorem d3_1 : decode cJ3_checkIndex_8e157 1 = .ok (.ifCond .lt 8, 3) := by decide +kernel
theorem d3_4 : decode cJ3_checkIndex_8e157 4 = .ok (.iload_n 0, 1) := by decide +kernel
theorem d3_5 : decode cJ3_checkIndex_8e157 5 = .ok (.iload_n 1, 1) := by decide +kernel
theorem d3_6 : decode cJ3_checkIndex_8e157 6 = .ok (.if_icmp .lt 10, 3) := by decide +kernel
theorem d3_16 : decode cJ3_checkIndex_8e157 16 = .ok (.iload_n 0, 1) := by decide +kernel
theorem d3_17 : decode cJ3_checkIndex_8e157 17 = .ok (.ireturn, 1) := by decide +kernel
theorem d0_0 : decode cJ0_checkIndex_df160 0 = .ok (.iload_n 0, 1) := by decide +kernel
theorem d0_1 : decode cJ0_checkIndex_df160 1 = .ok (.iload_n 1, 1) := by decide +kernel
theorem d0_2 : decode cJ0_checkIndex_df160 2 = .ok (.getstatic 1053, 3) := by decide +kernel
theorem d0_5 : decode cJ0_checkIndex_df160 5 = .ok (.invokestatic 1059, 3) := by decide +kernel
theorem d0_8 : decode cJ0_checkIndex_df160 8 = .ok (.pop, 1) := by decide +kernel
theorem d0_9 : decode cJ0_checkIndex_df160 9 = .ok (.return_, 1) := by decide +kernel
set_option maxHeartbeats 4000000 in
set_option maxRecDepth 100000 in
theorem c_pre {l : Launch} {i n : Int32} {z : Value} (h0 : ¬ i < 0) (h1 : i < n) : Met l yJ3_checkIndex_8e157 ab_w3 ({ frames := 0, cells := 0, slots := 0, locals := 0 }) (va_Pc [.int i, .int n, z] (fun _ => True)) (fun _ st o t => o = .returned (some (.int i)) ∧ t.heap = st.heap) 0 0 (fun _ => False) := by
  refine Met.ofW (cc := cJ3_checkIndex_8e157) (maxL := 3) (ret := some .int) (by decide) rfl ?_
  intro p e s m args below meth c s₁ B hml hv
  obtain ⟨rfl, -⟩ := hv
  have hx := B.exec
  have hb := B.bytes
  have hr := B.returns
  have hlocks := B.notSynchronized
  rw [lg_entry_eq]
  have hi : (lg_sl [Value.int i, .int n, z] ++ List.replicate (3 - (lg_sl [Value.int i, .int n, z]).length) Slot.unset).toArray[0]? = some (.val (.int i)) := by cases z <;> rfl
  have hn : (lg_sl [Value.int i, .int n, z] ++ List.replicate (3 - (lg_sl [Value.int i, .int n, z]).length) Slot.unset).toArray[1]? = some (.val (.int n)) := by cases z <;> rfl
  generalize (lg_sl [Value.int i, .int n, z] ++ List.replicate (3 - (lg_sl [Value.int i, .int n, z]).length) Slot.unset).toArray = ls at hi hn ⊢
  refine lv_iload_n hx hb d3_0 rfl hi ?_
  refine lv_if_lt (tgt := 9) hx hb d3_1 (by decide) (fun q => absurd q h0) (fun _ => ?_)
  refine lv_iload_n hx hb d3_4 rfl hi ?_
  refine lv_iload_n hx hb d3_5 rfl hn ?_
  refine lv_icmp_lt (tgt := 16) hx hb d3_6 (by decide) (fun _ => ?_) (fun q => absurd h1 q)
  refine lv_iload_n hx hb d3_16 rfl hi ?_
  exact W.iret hx hb hr (fun t ht hW => ⟨rfl, ht⟩) (fun q hq => by cases hq) d3_17 (hlocks := hlocks)
section CK
variable {p : Program} {l : Launch} {e : Env} {R : Room} {s : State} {m : MethodId} {args : Array Value} {below : List Frame} {meth : Method} {c : Code} {H : Heap} {locs : List Loc} {cells slots : Nat} {Q : State → Prop}
theorem ab_run1 {pc : Nat} {ls : Array Slot} {st0 rest : List Value} {x : Int32} (hr : va_Run p l e R s m args below meth c H locs cells slots 0 0 (F0 m pc ls st0) rest (fun st o t => o = .returned (some (.int x)) ∧ t.heap = st.heap) (fun _ => False)) (kk : W p l e R s m args below meth c H locs cells slots Q (F0 m (pc + 3) ls (.int x :: rest))) : W p l e R s m args below meth c H locs cells slots Q (F0 m pc ls st0) := by
  intro T hT X
  obtain ⟨v, st₀, t, T', L, h0, X', hL, e1, e2, ⟨hv, hh⟩, st⟩ := hr T hT X
  cases hv
  have hLn : L = [] := by
    cases L with
    | nil => rfl
    | cons q _ => exact (hL q List.mem_cons_self).elim
  subst hLn
  rw [List.append_nil] at X'
  obtain ⟨t2, a1, b1⟩ := kk T' (by rw [e1, hh, h0]) X'
  exact ⟨t2, st t2 a1, b1⟩
end CK
set_option maxHeartbeats 4000000 in
set_option maxRecDepth 100000 in
theorem ab_ck (l : Launch) : ab_Ck l := by
  intro i n A sz h0 h1
  refine Met.ofW (cc := cJ0_checkIndex_df160) (maxL := 2) (ret := none) (by decide) rfl ?_
  intro p e s m args below meth c s₁ B hml hv
  obtain ⟨rfl, hsz, hA, hZ⟩ := hv
  have hx := B.exec
  have hb := B.bytes
  have hr := B.returns
  have hlocks := B.notSynchronized
  have hts := atoms_spec (ws := ab_wk) B.pre
  have hown : s.vm.findClass "java/lang/String" = some m.cls := findClass_of_methodNamed B.named
  subst hsz
  have hS : va_S A s.heap s.heap [] := va_S.rf
  have hl := lv_entry ([.int i, .int n]) (n := 2) (Nat.le_of_ble_eq_true rfl)
  rw [lg_entry_eq]
  generalize (lg_sl ([.int i, .int n] : List Value) ++ List.replicate (2 - (lg_sl ([.int i, .int n] : List Value)).length) Slot.unset).toArray = ls at hl ⊢
  have hl : lv_has ls 2 [(0, .int i), (1, .int n)] := hl
  have htG : ∀ w ∈ ab_G, w.before ([Value.int i, .int n] : List Value).toArray s = true := fun w hw => hts w (List.mem_cons_of_mem _ hw)
  have hG : GoodIn ab_G (va_wsS "java/lang/String" 1059 yJ3_checkIndex_8e157 ab_w3) := by
    refine ab_G_good fun w hw => ?_
    simp only [va_wsS, ab_w3, List.cons_append, List.nil_append, List.mem_cons] at hw
    rcases hw with rfl | rfl | rfl | rfl | hw
    · exact ab_w3_code.2.2.2.1
    · exact ab_w3_code.2.1
    · exact ab_w3_code.2.2.1
    · exact ab_w3_code.1
    · exact hw
  refine lv_iload_n hx hb d0_0 rfl (lv_at hl 0 rfl) ?_
  refine lv_iload_n hx hb d0_1 rfl (lv_at hl 1 rfl) ?_
  have fin : ∀ z : Value, z.category = 1 → W p l e (headSpec ab_wk ({ frames := 1, cells := 0, slots := 0, locals := 60 })).room s m ([Value.int i, .int n] : List Value).toArray below meth c s.heap [] 0 0 (MQ below (fun _ st o t => o = .returned none ∧ t.heap = st.heap) ([Value.int i, .int n] : List Value).toArray s 0 0 (fun _ => False)) (F0 m 5 ls [z, .int n, .int i]) := by
    intro z hz
    refine ab_run1 (x := i) (rest := []) (va_runS (As := [.int i, .int n, z]) (rest := []) (n := 3) (ret := some .int) (bytes := cJ3_checkIndex_8e157) (maxL := 3) ⟨hx, hb, hml, hown, htG⟩ (c_pre (z := z) h0 h1) (va_cwS 3 htG hG rfl rfl rfl (by decide +kernel) ⟨by decide, by decide⟩) ⟨fun a U g mk q => q, fun U hU hW => ⟨rfl, trivial⟩⟩ rfl rfl hl.1 rfl (show 2 * 0 + 0 ≤ 8 by decide) d0_5 ⟨by decide, by decide⟩) ?_
    refine lv_pop hx hb d0_8 rfl ?_
    exact W.vret hx hb hr (fun t ht hW => ⟨rfl, ht⟩) (fun q hq => by cases hq) d0_9 (hlocks := hlocks)
  rcases hZ with hZ | ⟨t, hZ⟩
  · exact va_gets hx hb hZ hS hown (htG _ ab_w3_code.2.2.2.2) (fun _ h9 => h9) d0_2 (fin .null rfl)
  · exact va_gets hx hb hZ hS hown (htG _ ab_w3_code.2.2.2.2) (fun _ h9 => h9) d0_2 (fin (.ref t) rfl)
