/-- String.checkIndex(i, n) with 0 ≤ i < n: it returns, nothing changes -/
def ab_wk : List Jvm.Cond := .code yJ0_checkIndex_df160 cJ0_checkIndex_df160 2 none :: ab_G
def ab_Ck (l : Launch) : Prop := ∀ (i n : Int32) (A : Nat → Prop) (sz : Nat), ¬ i < 0 → i < n → Met l yJ0_checkIndex_df160 ab_wk ({ frames := 1, cells := 0, slots := 0, locals := 60 }) (va_Pc [.int i, .int n] (fun U => U.heap.size = sz ∧ (∀ q, sz ≤ q → A q) ∧ va_Zq "jdk/internal/util/Preconditions" "SIOOBE_FORMATTER" "Ljava/util/function/BiFunction;" A U U.heap)) (fun _ st o t => o = .returned none ∧ t.heap = st.heap) 0 0 (fun _ => False)
set_option maxRecDepth 100000 in
theorem ab_wk_code : Jvm.Cond.code yJ0_checkIndex_df160 cJ0_checkIndex_df160 2 none ∈ ab_G ∧ Jvm.Cond.static yJ0_checkIndex_df160 ∈ ab_G ∧ Jvm.Cond.initialized "java/lang/String" ∈ ab_G := ⟨List.mem_filter.mpr ⟨List.mem_of_getElem? (i := 426) rfl, by decide +kernel⟩, List.mem_filter.mpr ⟨List.mem_of_getElem? (i := 425) rfl, by decide +kernel⟩, List.mem_filter.mpr ⟨List.mem_of_getElem? (i := 75) rfl, by decide +kernel⟩⟩
set_option maxRecDepth 100000 in
theorem ab_oi_code : Jvm.Cond.code objectInit ⟨#[0xb1]⟩ 1 none ∈ ab_G ∧ Jvm.Cond.instanceMethod objectInit ∈ ab_G := ⟨List.mem_filter.mpr ⟨List.mem_of_getElem? (i := 87) rfl, by decide +kernel⟩, List.mem_filter.mpr ⟨List.mem_of_getElem? (i := 86) rfl, by decide +kernel⟩⟩
theorem ab_okR_get {y : MethodName} {pc i ln ci k pl : Nat} (h : ab_okR y pc (.getfield i, ln, [ci, k, pl]) = true) : (ci = 90 ∧ ((k = 0 ∧ ab_wd pl (.fieldLink y.cls i "java/lang/String" "value" "[B") = true) ∨ (k = 1 ∧ ab_wd pl (.fieldLink y.cls i "java/lang/String" "coder" "B") = true))) ∨ (ci ≠ 90 ∧ ∃ C T N, vwCl[ci]? = some (C, T, N) ∧ k < N ∧ ab_wd pl (.fieldLink y.cls i (T k).1 (T k).2.1 (T k).2.2.1) = true) := by
  simp only [ab_okR] at h
  by_cases hc : ci = 90
  · rw [if_pos hc] at h
    refine Or.inl ⟨hc, ?_⟩
    split at h
    · exact Or.inl ⟨rfl, h⟩
    · exact Or.inr ⟨rfl, h⟩
    · cases h
  · rw [if_neg hc] at h
    refine Or.inr ⟨hc, ?_⟩
    split at h
    · next C T N hq =>
      simp only [Bool.and_eq_true, decide_eq_true_eq] at h
      exact ⟨C, T, N, hq, h.1, h.2⟩
    · cases h
theorem ab_ty6 (cA : Nat → ClassId) : ∀ t : Nat, t < 6 → ∃ ty, (ab_tyl cA)[t]? = some (cA t, ty)
  | 0, _ => ⟨_, rfl⟩
  | 1, _ => ⟨_, rfl⟩
  | 2, _ => ⟨_, rfl⟩
  | 3, _ => ⟨_, rfl⟩
  | 4, _ => ⟨_, rfl⟩
  | 5, _ => ⟨_, rfl⟩
  | k + 6, hk => absurd hk (by omega)
theorem ab_up_ho {ad : Nat → Nat} {n q : Nat} (h9 : n < 900) : ∀ k, k < n ∨ 900 ≤ k → va_up ad n q k = ad k := by
  intro k hk
  unfold va_up
  rw [if_neg (by omega)]
theorem ab_GV {own C : String} {i j : Nat} (hj : j < ab_N) (hl : Jvm.Cond.methodLink own i (ab_y j).1 ∈ ab_G) (hi : Jvm.Cond.instanceMethod (ab_y j).1 ∈ ab_G) (hs : Jvm.Cond.selects C (ab_y j).1 (ab_y j).1 ∈ ab_G) (hn : Jvm.Cond.initialized C ∈ ab_G) : GoodIn ab_G (wsV own i C (ab_y j).1 (ab_wy j)) := by
  refine ab_G_good fun w hw => ?_
  simp only [wsV, ab_wy, List.cons_append, List.nil_append, List.mem_cons] at hw
  rcases hw with rfl | rfl | rfl | rfl | rfl | hw
  · exact hl
  · exact hi
  · exact hs
  · exact hn
  · exact (ab_meth hj).1
  · exact hw
theorem ab_GS {own : String} {i j : Nat} (hj : j < ab_N) (hl : Jvm.Cond.methodLink own i (ab_y j).1 ∈ ab_G) (hi : Jvm.Cond.static (ab_y j).1 ∈ ab_G) : GoodIn ab_G (va_wsS own i (ab_y j).1 (ab_wy j)) := by
  refine ab_G_good fun w hw => ?_
  simp only [va_wsS, ab_wy, List.cons_append, List.nil_append, List.mem_cons] at hw
  rcases hw with rfl | rfl | rfl | rfl | hw
  · exact hl
  · exact hi
  · exact (ab_meth hj).2.2.2.1
  · exact (ab_meth hj).1
  · exact hw
theorem ab_GG {j : Nat} (hj : j < ab_N) : GoodIn ab_G (ab_wy j) := by
  refine ab_G_good fun w hw => ?_
  rcases List.mem_cons.mp hw with rfl | hw
  · exact (ab_meth hj).1
  · exact hw
theorem ab_stk {ad : Nat → Nat} {S : List Value} {n b : Nat} {R : List Value} (hd : S.drop n = .ref b :: R) : S.map (ab_v ad) = (((S.take n).reverse).map (ab_v ad)).reverse ++ .ref (ad b) :: R.map (ab_v ad) := by
  have h1 : S = S.take n ++ (.ref b :: R) := by rw [← hd, List.take_append_drop]
  rw [List.map_reverse, List.reverse_reverse]
  conv => lhs; rw [h1]
  rw [List.map_append]
  rfl
theorem ab_stkS {ad : Nat → Nat} {S : List Value} {n : Nat} : S.map (ab_v ad) = (((S.take n).reverse).map (ab_v ad)).reverse ++ (S.drop n).map (ab_v ad) := by
  rw [List.map_reverse, List.reverse_reverse, ← List.map_append, List.take_append_drop]
section ABS
variable {p : Program} {l : Launch} {e : Env} {R : Room} {s : State} {m : MethodId} {args : Array Value} {below : List Frame} {meth : Method} {c : Code} {H : Heap} {locs : List Loc} {cells slots : Nat} {Q : State → Prop}
variable {ad : Nat → Nat} {cA : Nat → ClassId} {D : va_G} {A : Nat → Prop} {h : aH} {pc : Nat} {L : aL} {S : List Value} {ls : Array Slot} {r : aR}
theorem ab_run0 {st0 rest : List Value} (hr : va_Run p l e R s m args below meth c H locs cells slots 0 0 (F0 m pc ls st0) rest (fun st o t => o = .returned none ∧ t.heap = st.heap) (fun _ => False)) (kk : W p l e R s m args below meth c H locs cells slots Q (F0 m (pc + 3) ls rest)) : W p l e R s m args below meth c H locs cells slots Q (F0 m pc ls st0) := by
  intro T hT X
  obtain ⟨v, st₀, t, T', L, h0, X', hL, e1, e2, ⟨hv, hh⟩, st⟩ := hr T hT X
  cases hv
  have hLn : L = [] := by
    cases L with
    | nil => rfl
    | cons q _ => exact (hL q List.mem_cons_self).elim
  subst hLn
  rw [List.append_nil] at X'
  obtain ⟨t2, a1, b1⟩ := kk T' (by rw [e1, hh, h0]) X'
  exact ⟨t2, st t2 a1, b1⟩
theorem ab_al {x : va_E} {q pc' : Nat} {y : va_E} {R' : List Value} {H1 : Heap} (h9 : h.length < 900) (o1 : ab_outL h.length L = true) (o2 : R'.all (ab_out h.length) = true) (o3 : h.all (ab_outE h.length) = true) (hL : ab_L ad ls L)
    (K3 : ∀ (ls' : Array Slot) (q : Nat) (H' : Heap), ab_L (va_up ad h.length q) ls' L → ab_Wd D cA (va_up ad h.length q) A s (h ++ [x]) H' locs → W p l e R s m args below meth c H' locs (cells + 1) (slots + ab_sz x) Q (F0 m pc' ls' (.ref q :: R'.map (ab_v (va_up ad h.length q)))))
    (e0 : ab_e cA (va_up ad h.length q) x = y) (hP' : va_P D vwCl (ab_ws cA ad h ++ [(q, y)]) H1) (hD' : va_D A (ab_ws cA ad h ++ [(q, y)])) (hS' : va_S A s.heap H1 locs) : W p l e R s m args below meth c H1 locs (cells + 1) (slots + ab_sz x) Q (F0 m pc' ls (.ref q :: R'.map (ab_v ad))) := by
  subst e0
  rw [ab_out_h h9 o3] at hP' hD'
  have K4 := K3 ls q H1 (ab_out_L (ab_up_ho h9) o1 hL) ⟨hP', hD', hS'⟩
  rwa [ab_out_S (ab_up_ho h9) o2] at K4
set_option maxHeartbeats 4000000 in
set_option maxRecDepth 100000 in
theorem ab_S {j : Nat} (hck : ab_Ck l) (F : ab_Fr p s m args meth c j) (En : ab_En D cA ad A s) (Wd : ab_Wd D cA ad A s h H locs) (hA : ∀ q, s.heap.size ≤ q → A q) (hL : ab_L ad ls L) (hLn : L.length = (ab_y j).2.2.1) (hfr : 4 ≤ R.frames) (hlo : 160 ≤ R.locals) (hcl : cells ≤ R.cells ∧ slots ≤ R.slots)
    {en : aE} (hok : ab_okE (ab_y j).1 (ab_y j).2.1 pc en = true) (hst : ab_stp ab_nf (ab_y j).2.2.2.1 en pc L S h = some r) (K : ab_Kt p l e R s m args below meth c H locs cells slots Q D cA ad A h r) : W p l e R s m args below meth c H locs cells slots Q (F0 m pc ls (S.map (ab_v ad))) := by
  obtain ⟨hx, hb, hr, hml, hown, hts, hlocks, hin⟩ := F
  obtain ⟨hK, hC, hN⟩ := En
  obtain ⟨hP, hD, hS⟩ := Wd
  obtain ⟨ins, ln, rs⟩ := en
  simp only [ab_okE, Bool.and_eq_true, decide_eq_true_eq] at hok
  obtain ⟨⟨hd, hln⟩, hR⟩ := hok
  have hsz : ls.size = c.maxLocals := by rw [hL.1, hLn, hml]
  cases ins
  case iconst n =>
    obtain rfl : ln = 1 := Nat.eq_of_beq_eq_true hln
    cases hst
    exact lv_iconst hx hb hd (ab_k_ok n) (K ls hL)
  case bipush n =>
    obtain rfl : ln = 2 := Nat.eq_of_beq_eq_true hln
    cases hst
    exact lv_bipush hx hb hd (of_decide_eq_true hR) (K ls hL)
  case sipush n =>
    obtain rfl : ln = 3 := Nat.eq_of_beq_eq_true hln
    cases hst
    exact lv_sipush hx hb hd (of_decide_eq_true hR) (K ls hL)
  case lconst n =>
    obtain rfl : ln = 1 := Nat.eq_of_beq_eq_true hln
    cases hst
    exact lv_lconst hx hb hd rfl (K ls hL)
  case iload_n k =>
    obtain rfl : ln = 1 := Nat.eq_of_beq_eq_true hln
    obtain ⟨x, h1, rfl⟩ := ab_ldi_i hst
    exact lv_iload_n hx hb hd rfl (hL.2.2 _ _ h1) (K ls hL)
  case iload k =>
    obtain rfl : ln = 2 := Nat.eq_of_beq_eq_true hln
    obtain ⟨x, h1, rfl⟩ := ab_ldi_i hst
    exact lv_iload hx hb hd (hL.2.2 _ _ h1) (K ls hL)
  case lload_n k =>
    obtain rfl : ln = 1 := Nat.eq_of_beq_eq_true hln
    obtain ⟨x, h1, rfl⟩ := ab_ldl_i hst
    exact lv_lload_n hx hb hd rfl (hL.2.2 _ _ h1) (K ls hL)
  case lload k =>
    obtain rfl : ln = 2 := Nat.eq_of_beq_eq_true hln
    obtain ⟨x, h1, rfl⟩ := ab_ldl_i hst
    exact lv_lload hx hb hd (hL.2.2 _ _ h1) (K ls hL)
  case aload_n k =>
    obtain rfl : ln = 1 := Nat.eq_of_beq_eq_true hln
    obtain ⟨x, h1, rfl⟩ := ab_lda_i hst
    exact lv_aload_n hx hb hd rfl (hL.2.2 _ _ h1) (K ls hL)
  case aload k =>
    obtain rfl : ln = 2 := Nat.eq_of_beq_eq_true hln
    obtain ⟨x, h1, rfl⟩ := ab_lda_i hst
    exact lv_aload hx hb hd (hL.2.2 _ _ h1) (K ls hL)
  case istore_n k =>
    obtain rfl : ln = 1 := Nat.eq_of_beq_eq_true hln
    obtain ⟨x, R', rfl, h1, rfl⟩ := ab_sti_i hst
    exact lv_istore_n hx hb hd rfl hL.has h1 rfl (fun ls' h' => K ls' (ab_L.st1 (v := .int x) h1 h'))
  case istore k =>
    obtain rfl : ln = 2 := Nat.eq_of_beq_eq_true hln
    obtain ⟨x, R', rfl, h1, rfl⟩ := ab_sti_i hst
    exact lv_istore hx hb hd hL.has h1 rfl (fun ls' h' => K ls' (ab_L.st1 (v := .int x) h1 h'))
  case lstore_n k =>
    obtain rfl : ln = 1 := Nat.eq_of_beq_eq_true hln
    obtain ⟨x, R', rfl, h1, rfl⟩ := ab_stl_i hst
    exact lv_lstore_n hx hb hd rfl hL.has h1 rfl (fun ls' h' => K ls' (ab_L.st2 (v := .long x) h1 h'))
  case lstore k =>
    obtain rfl : ln = 2 := Nat.eq_of_beq_eq_true hln
    obtain ⟨x, R', rfl, h1, rfl⟩ := ab_stl_i hst
    exact lv_lstore hx hb hd hL.has h1 rfl (fun ls' h' => K ls' (ab_L.st2 (v := .long x) h1 h'))
  case astore_n k =>
    obtain rfl : ln = 1 := Nat.eq_of_beq_eq_true hln
    obtain ⟨x, R', rfl, h1, rfl⟩ := ab_sta_i hst
    exact lv_astore_n hx hb hd rfl hL.has h1 rfl (fun ls' h' => K ls' (ab_L.st1 (v := .ref x) h1 h'))
  case astore k =>
    obtain rfl : ln = 2 := Nat.eq_of_beq_eq_true hln
    obtain ⟨x, R', rfl, h1, rfl⟩ := ab_sta_i hst
    exact lv_astore hx hb hd hL.has h1 rfl (fun ls' h' => K ls' (ab_L.st1 (v := .ref x) h1 h'))
  case iinc k n =>
    obtain rfl : ln = 3 := Nat.eq_of_beq_eq_true hln
    obtain ⟨x, h0, h1, rfl⟩ := ab_inc_i hst
    obtain ⟨i0, h2⟩ := List.getElem?_of_mem (ab_lv_mem (ad := ad) (q := (k, .int x)).mpr ⟨.int x, h0, rfl⟩)
    exact lv_iinc hx hb hd hL.has h2 (by rw [ab_k_ok]) h1 rfl (fun ls' h' => K ls' (ab_L.st1 (v := .int (x + ab_k n)) h1 h'))
  case iadd =>
    obtain rfl : ln = 1 := Nat.eq_of_beq_eq_true hln
    obtain ⟨x, y, R', rfl, rfl⟩ := ab_ii_i hst
    exact lv_iadd hx hb hd (K ls hL)
  case isub =>
    obtain rfl : ln = 1 := Nat.eq_of_beq_eq_true hln
    obtain ⟨x, y, R', rfl, rfl⟩ := ab_ii_i hst
    exact lv_isub hx hb hd (K ls hL)
  case imul =>
    obtain rfl : ln = 1 := Nat.eq_of_beq_eq_true hln
    obtain ⟨x, y, R', rfl, rfl⟩ := ab_ii_i hst
    exact lv_imul hx hb hd (K ls hL)
  case iand =>
    obtain rfl : ln = 1 := Nat.eq_of_beq_eq_true hln
    obtain ⟨x, y, R', rfl, rfl⟩ := ab_ii_i hst
    exact lv_iand hx hb hd (K ls hL)
  case ior =>
    obtain rfl : ln = 1 := Nat.eq_of_beq_eq_true hln
    obtain ⟨x, y, R', rfl, rfl⟩ := ab_ii_i hst
    exact lv_ior hx hb hd (K ls hL)
  case ishl =>
    obtain rfl : ln = 1 := Nat.eq_of_beq_eq_true hln
    obtain ⟨x, y, R', rfl, rfl⟩ := ab_ii_i hst
    exact lv_ishl hx hb hd (K ls hL)
  case ishr =>
    obtain rfl : ln = 1 := Nat.eq_of_beq_eq_true hln
    obtain ⟨x, y, R', rfl, rfl⟩ := ab_ii_i hst
    exact lv_ishr hx hb hd (K ls hL)
  case iushr =>
    obtain rfl : ln = 1 := Nat.eq_of_beq_eq_true hln
    obtain ⟨x, y, R', rfl, rfl⟩ := ab_ii_i hst
    exact lv_iushr hx hb hd rfl (K ls hL)
  case idiv =>
    obtain rfl : ln = 1 := Nat.eq_of_beq_eq_true hln
    obtain ⟨x, y, R', rfl, h0, rfl⟩ := ab_dv_i hst
    exact lv_idiv hx hb hd h0 (K ls hL)
  case irem =>
    obtain rfl : ln = 1 := Nat.eq_of_beq_eq_true hln
    obtain ⟨x, y, R', rfl, h0, rfl⟩ := ab_dv_i hst
    exact lv_irem hx hb hd h0 (K ls hL)
  case i2l =>
    obtain rfl : ln = 1 := Nat.eq_of_beq_eq_true hln
    obtain ⟨x, R', rfl, rfl⟩ := ab_i1_i hst
    exact lv_i2l hx hb hd rfl (K ls hL)
  case i2b =>
    obtain rfl : ln = 1 := Nat.eq_of_beq_eq_true hln
    obtain ⟨x, R', rfl, rfl⟩ := ab_i1_i hst
    exact lv_i2b hx hb hd rfl (K ls hL)
  case i2s =>
    obtain rfl : ln = 1 := Nat.eq_of_beq_eq_true hln
    obtain ⟨x, R', rfl, rfl⟩ := ab_i1_i hst
    exact lv_i2s hx hb hd rfl (K ls hL)
  case i2c =>
    obtain rfl : ln = 1 := Nat.eq_of_beq_eq_true hln
    obtain ⟨x, R', rfl, rfl⟩ := ab_i1_i hst
    exact lv_i2c hx hb hd rfl (K ls hL)
  case l2i =>
    obtain rfl : ln = 1 := Nat.eq_of_beq_eq_true hln
    obtain ⟨x, R', rfl, rfl⟩ := ab_l1_i hst
    exact lv_l2i hx hb hd rfl (K ls hL)
  case lneg =>
    obtain rfl : ln = 1 := Nat.eq_of_beq_eq_true hln
    obtain ⟨x, R', rfl, rfl⟩ := ab_l1_i hst
    exact lv_lneg hx hb hd (K ls hL)
  case ladd =>
    obtain rfl : ln = 1 := Nat.eq_of_beq_eq_true hln
    obtain ⟨x, y, R', rfl, rfl⟩ := ab_ll_i hst
    exact lv_ladd hx hb hd (K ls hL)
  case lsub =>
    obtain rfl : ln = 1 := Nat.eq_of_beq_eq_true hln
    obtain ⟨x, y, R', rfl, rfl⟩ := ab_ll_i hst
    exact lv_lsub hx hb hd (K ls hL)
  case land =>
    obtain rfl : ln = 1 := Nat.eq_of_beq_eq_true hln
    obtain ⟨x, y, R', rfl, rfl⟩ := ab_ll_i hst
    exact lv_land hx hb hd (K ls hL)
  case lor =>
    obtain rfl : ln = 1 := Nat.eq_of_beq_eq_true hln
    obtain ⟨x, y, R', rfl, rfl⟩ := ab_ll_i hst
    exact lv_lor hx hb hd (K ls hL)
  case lxor =>
    obtain rfl : ln = 1 := Nat.eq_of_beq_eq_true hln
    obtain ⟨x, y, R', rfl, rfl⟩ := ab_ll_i hst
    exact lv_lxor hx hb hd (K ls hL)
  case lcmp =>
    obtain rfl : ln = 1 := Nat.eq_of_beq_eq_true hln
    obtain ⟨x, y, R', rfl, rfl⟩ := ab_ll_i hst
    exact W.lcmp hx hb hd (K ls hL)
  case lshl =>
    obtain rfl : ln = 1 := Nat.eq_of_beq_eq_true hln
    obtain ⟨x, y, R', rfl, rfl⟩ := ab_li_i hst
    exact lv_lshl hx hb hd rfl (K ls hL)
  case lshr =>
    obtain rfl : ln = 1 := Nat.eq_of_beq_eq_true hln
    obtain ⟨x, y, R', rfl, rfl⟩ := ab_li_i hst
    exact lv_lshr hx hb hd rfl (K ls hL)
  case lushr =>
    obtain rfl : ln = 1 := Nat.eq_of_beq_eq_true hln
    obtain ⟨x, y, R', rfl, rfl⟩ := ab_li_i hst
    exact lv_lushr hx hb hd rfl (K ls hL)
  case dup =>
    obtain rfl : ln = 1 := Nat.eq_of_beq_eq_true hln
    obtain ⟨v, R', rfl, h0, rfl⟩ := ab_dup_i hst
    exact lv_dup hx hb hd ((ab_v_cat ad v).trans h0) (K ls hL)
  case pop =>
    obtain rfl : ln = 1 := Nat.eq_of_beq_eq_true hln
    obtain ⟨v, R', rfl, h0, rfl⟩ := ab_pop_i hst
    exact lv_pop hx hb hd ((ab_v_cat ad v).trans h0) (K ls hL)
  case dup2 =>
    obtain rfl : ln = 1 := Nat.eq_of_beq_eq_true hln
    obtain ⟨y, a, R', rfl, rfl⟩ := ab_dup2_i hst
    exact lv_dup2_11 hx hb hd rfl rfl (K ls hL)
  case goto o =>
    obtain rfl : ln = 3 := Nat.eq_of_beq_eq_true hln
    obtain ⟨t, rfl, ht⟩ := ab_r1 hR
    cases hst
    exact lv_goto hx hb hd ht (K ls hL)
  case if_icmp cd o =>
    obtain rfl : ln = 3 := Nat.eq_of_beq_eq_true hln
    obtain ⟨t, rfl, ht⟩ := ab_r1 hR
    obtain ⟨x, y, R', rfl, rfl⟩ := ab_br_i hst
    have K2 := K ls hL
    cases cd
    · refine lv_icmp_eq hx hb hd ht (fun q => ?_) (fun q => ?_)
      · rw [ab_cd_t (c := .eq) (decide_eq_true q)] at K2; exact K2
      · rw [ab_cd_f (c := .eq) (decide_eq_false q)] at K2; exact K2
    · refine lv_icmp_ne hx hb hd ht (fun q => ?_) (fun q => ?_)
      · rw [ab_cd_t (c := .ne) (ab_ne_t q)] at K2; exact K2
      · rw [ab_cd_f (c := .ne) (ab_ne_f q)] at K2; exact K2
    · refine lv_icmp_lt hx hb hd ht (fun q => ?_) (fun q => ?_)
      · rw [ab_cd_t (c := .lt) (decide_eq_true q)] at K2; exact K2
      · rw [ab_cd_f (c := .lt) (decide_eq_false q)] at K2; exact K2
    · refine lv_icmp_ge hx hb hd ht (fun q => ?_) (fun q => ?_)
      · rw [ab_cd_t (c := .ge) (decide_eq_true q)] at K2; exact K2
      · rw [ab_cd_f (c := .ge) (decide_eq_false q)] at K2; exact K2
    · refine lv_icmp_gt hx hb hd ht (fun q => ?_) (fun q => ?_)
      · rw [ab_cd_t (c := .gt) (decide_eq_true q)] at K2; exact K2
      · rw [ab_cd_f (c := .gt) (decide_eq_false q)] at K2; exact K2
    · refine lv_icmp_le hx hb hd ht (fun q => ?_) (fun q => ?_)
      · rw [ab_cd_t (c := .le) (decide_eq_true q)] at K2; exact K2
      · rw [ab_cd_f (c := .le) (decide_eq_false q)] at K2; exact K2
  case ifCond cd o =>
    obtain rfl : ln = 3 := Nat.eq_of_beq_eq_true hln
    obtain ⟨t, rfl, ht⟩ := ab_r1 hR
    obtain ⟨x, R', rfl, rfl⟩ := ab_bz_i hst
    have K2 := K ls hL
    cases cd
    · refine lv_if_eq hx hb hd ht (fun q => ?_) (fun q => ?_)
      · rw [ab_cd_t (c := .eq) (decide_eq_true q)] at K2; exact K2
      · rw [ab_cd_f (c := .eq) (decide_eq_false q)] at K2; exact K2
    · refine lv_if_ne hx hb hd ht (fun q => ?_) (fun q => ?_)
      · rw [ab_cd_t (c := .ne) (ab_ne_t q)] at K2; exact K2
      · rw [ab_cd_f (c := .ne) (ab_ne_f q)] at K2; exact K2
    · refine lv_if_lt hx hb hd ht (fun q => ?_) (fun q => ?_)
      · rw [ab_cd_t (c := .lt) (decide_eq_true q)] at K2; exact K2
      · rw [ab_cd_f (c := .lt) (decide_eq_false q)] at K2; exact K2
    · refine lv_if_ge hx hb hd ht (fun q => ?_) (fun q => ?_)
      · rw [ab_cd_t (c := .ge) (decide_eq_true q)] at K2; exact K2
      · rw [ab_cd_f (c := .ge) (decide_eq_false q)] at K2; exact K2
    · refine lv_if_gt hx hb hd ht (fun q => ?_) (fun q => ?_)
      · rw [ab_cd_t (c := .gt) (decide_eq_true q)] at K2; exact K2
      · rw [ab_cd_f (c := .gt) (decide_eq_false q)] at K2; exact K2
    · refine lv_if_le hx hb hd ht (fun q => ?_) (fun q => ?_)
      · rw [ab_cd_t (c := .le) (decide_eq_true q)] at K2; exact K2
      · rw [ab_cd_f (c := .le) (decide_eq_false q)] at K2; exact K2
  case ireturn =>
    obtain rfl : ln = 1 := Nat.eq_of_beq_eq_true hln
    obtain ⟨ty, x, h1, rfl, h2, rfl⟩ := ab_reti_i hst
    obtain ⟨Qc, free, rfl, hq, hf⟩ := K
    exact W.zret hx hb (hr.trans h1) h2 hq hf hd (hlocks := hlocks)
  case lreturn =>
    obtain rfl : ln = 1 := Nat.eq_of_beq_eq_true hln
    obtain ⟨x, h1, rfl, rfl⟩ := ab_retl_i hst
    obtain ⟨Qc, free, rfl, hq, hf⟩ := K
    exact W.lret hx hb (hr.trans h1) hq hf hd (hlocks := hlocks)
  case return_ =>
    obtain rfl : ln = 1 := Nat.eq_of_beq_eq_true hln
    obtain ⟨h1, rfl, rfl⟩ := ab_retv_i hst
    obtain ⟨Qc, free, rfl, hq, hf⟩ := K
    exact W.vret hx hb (hr.trans h1) hq hf hd (hlocks := hlocks)
  case tableswitch d lo hi os =>
    have hR2 : ∃ t ts, rs = t :: ts ∧ (pc : Int) + d = (t : Int) ∧ os.toList.map (fun o => (pc : Int) + o) = ts.map (fun q : Nat => Int.ofNat q) ∧ hi - lo + 1 = (ts.length : Int) := by
      match rs, hR with
      | t :: ts, hR =>
        simp only [ab_okR, Bool.and_eq_true, decide_eq_true_eq] at hR
        exact ⟨t, ts, rfl, hR.1.1, hR.1.2, hR.2⟩
    obtain ⟨t, ts, rfl, ht, hos, hsz2⟩ := hR2
    obtain ⟨x, R', t1, rfl, rfl, h1⟩ := ab_tsw_i hst
    rcases h1 with ⟨h1, h2⟩ | ⟨h1, h2⟩
    · cases h2
      exact lv_tableOut hx hb hd h1 ht (K ls hL)
    · have h3 : ts[(x.toInt - lo).toNat]? = some t1 := by simpa using h2
      have h4 := congrArg (fun q => q[(x.toInt - lo).toNat]?) hos
      simp only [List.getElem?_map, h3, Option.map_some] at h4
      obtain ⟨o, ho, ho2⟩ := Option.map_eq_some_iff.mp h4
      exact lv_tableIn hx hb hd (fun q => h1 (Or.inl q)) (fun q => h1 (Or.inr q)) (by rw [← Array.getElem?_toList]; exact ho) ho2 (K ls hL)
  case lookupswitch d ps =>
    have hR2 : ∃ t t0 t1, rs = [t, t0, t1] ∧ (pc : Int) + d = (t : Int) ∧ ps.toList = [(0, (t0 : Int) - pc), (1, (t1 : Int) - pc)] := by
      match rs, hR with
      | [t, t0, t1], hR =>
        simp only [ab_okR, Bool.and_eq_true, decide_eq_true_eq] at hR
        exact ⟨t, t0, t1, rfl, hR.1, hR.2⟩
    obtain ⟨t, t0, t1, rfl, ht, hps⟩ := hR2
    obtain ⟨x, R', d', u0, u1, rfl, e0, rfl⟩ := ab_lsw_i hst
    cases e0
    have K2 := K ls hL
    have hp : (ps.toList.zip (ps.toList.drop 1)).all (fun (a, next) => a.1 < next.1) = true := by rw [hps]; rfl
    by_cases h0 : x = 0
    · rw [if_pos h0] at K2
      refine lv_lookup hx hb hd hp (off := (t0 : Int) - pc) ?_ (by omega) K2
      rw [hps, h0]; rfl
    · rw [if_neg h0] at K2
      by_cases h1 : x = 1
      · rw [if_pos h1] at K2
        refine lv_lookup hx hb hd hp (off := (t1 : Int) - pc) ?_ (by omega) K2
        rw [hps, h1]; rfl
      · rw [if_neg h1] at K2
        refine lv_lookup hx hb hd hp (off := d) ?_ ht K2
        rw [hps, lv_osw (k := 0) (a := 0) h0 (by decide), lv_osw (k := 1) (a := 1) h1 (by decide)]; rfl
  case ldc i =>
    obtain rfl : ln = 2 := Nat.eq_of_beq_eq_true hln
    match rs, hR, hst with
    | [0, pl, v], hR, hst =>
      cases hst
      exact lv_ldc hx hb hown (hts _ (ab_wd_mem hR).1) hd (K ls hL)
    | [k, pl], hR, hst =>
      have hst : ab_go (pc + 2) L (.ref k :: S) = some r := by cases k <;> exact hst
      have hR : (decide (900 ≤ k) && decide (ab_sr[k - 900]?.map (fun r => (r.1, r.2.1)) = some ((ab_y j).1.cls, i))) = true := by cases k <;> exact hR
      cases hst
      simp only [ab_okR, Bool.and_eq_true, decide_eq_true_eq] at hR
      obtain ⟨x, hx1, hx2⟩ := Option.map_eq_some_iff.mp hR.2
      have hZ := hN.1 (k - 900) x hx1
      rw [show 900 + (k - 900) = k by omega] at hZ
      obtain ⟨x1, x2, x3⟩ := x
      cases hx2
      exact va_ldcS hx hb hown hZ hd (K ls hL)
    | (n + 1) :: pl :: v :: [], hR, hst => cases hst
  case ldc_w i =>
    obtain rfl : ln = 3 := Nat.eq_of_beq_eq_true hln
    match rs, hR, hst with
    | [0, pl, v], hR, hst =>
      cases hst
      exact lv_ldcw hx hb hown (hts _ (ab_wd_mem hR).1) hd (K ls hL)
  case ldc2_w i =>
    obtain rfl : ln = 3 := Nat.eq_of_beq_eq_true hln
    match rs, hR, hst with
    | [z, pl, v], hR, hst =>
      cases hst
      exact lv_ldc2 hx hb hown (hts _ (ab_wd_mem hR).1) hd (K ls hL)
  case getfield i =>
    obtain rfl : ln = 3 := Nat.eq_of_beq_eq_true hln
    match rs, hR, hst with
    | [ci, k, pl], hR, hst =>
      have hR := ab_okR_get hR
      rcases ab_fld_i hst with ⟨a, R', fs, v, rfl, h1, h2, rfl⟩ | ⟨a, R', rfl, rfl, h1, h2, h3⟩
      · obtain ⟨q, hq, -⟩ := hP a _ (ab_ws_at h1)
        have hq : vwCl[ci]? = some q := hq
        have hc9 : ¬ ci = 90 := fun z => by rw [z] at hq; simp [vwCl] at hq
        obtain ⟨C, T, N, hq2, hR⟩ : ∃ C T N, vwCl[ci]? = some (C, T, N) ∧ k < N ∧ ab_wd pl (.fieldLink (ab_y j).1.cls i (T k).1 (T k).2.1 (T k).2.2.1) = true := by
          rcases hR with z | z
          · exact absurd z.1 hc9
          · exact z.2
        rw [hq2] at hq
        cases hq
        have hq := hq2
        have hcl2 := ab_cls hq
        exact va_get (D := D) (ci := ci) (v := ab_v ad v) (C := C) (T := T) (N := N) hx hb hts hcl2.1 hown hK hP a (ab_ws_at h1) hq k hR.1 (hts _ (ab_wd_mem hR.2).1) (fun _ h9 => h9) (by rw [List.getElem?_map, h2]; rfl) hd (K ls hL)
      · have hR : (k = 0 ∧ ab_wd pl (.fieldLink (ab_y j).1.cls i "java/lang/String" "value" "[B") = true) ∨ (k = 1 ∧ ab_wd pl (.fieldLink (ab_y j).1.cls i "java/lang/String" "coder" "B") = true) := by
          rcases hR with z | z
          · exact z.2
          · exact absurd rfl z.1
        obtain ⟨g1, g2, g3, g4⟩ := hC.1.1 (a - 900) (by omega)
        have ea : 900 + (a - 900) = a := by omega
        have eb : 920 + (a - 900) = a + 20 := by omega
        simp only [ea, eb] at g2 g3
        rcases h3 with ⟨rfl, rfl⟩ | ⟨rfl, rfl⟩
        · have hR : ab_wd pl (.fieldLink (ab_y j).1.cls i "java/lang/String" "value" "[B") = true := by
            rcases hR with z | z
            · exact z.2
            · cases z.1
          exact vk_getf hx hb g3 hS hown (hts _ (ab_wd_mem hR).1) (fun _ h9 => h9) hd (K ls hL)
        · have hR : ab_wd pl (.fieldLink (ab_y j).1.cls i "java/lang/String" "coder" "B") = true := by
            rcases hR with z | z
            · cases z.1
            · exact z.2
          exact vk_getf hx hb g2 hS hown (hts _ (ab_wd_mem hR).1) (fun _ h9 => h9) hd (K ls hL)
  case putfield i =>
    obtain rfl : ln = 3 := Nat.eq_of_beq_eq_true hln
    match rs, hR, hst with
    | [ci, k, pl], hR, hst =>
      have hR : (match vwCl[ci]? with
        | some (_, T, N) => decide (k < N) && ab_wd pl (.fieldLink (ab_y j).1.cls i (T k).1 (T k).2.1 (T k).2.2.1) && (!(T k).2.2.2 || (decide ((ab_y j).1.name = "<init>") && decide ((T k).1 = (ab_y j).1.cls)))
        | none => false) = true := hR
      obtain ⟨v, a, R', fs, rfl, h1, h2, h3, rfl⟩ := ab_put_i hst
      obtain ⟨q, hq, -⟩ := hP a _ (ab_ws_at h1)
      have hq : vwCl[ci]? = some q := hq
      rw [hq] at hR
      obtain ⟨C, T, N⟩ := q
      simp only [Bool.and_eq_true, decide_eq_true_eq, Bool.or_eq_true, Bool.not_eq_true'] at hR
      obtain ⟨c1, c2, c3, -, -⟩ := ab_cls hq
      obtain ⟨f1, f2⟩ := ab_fit_ok (ad := ad) h3
      have key : ∀ (H1 : Heap) (locs1 : List Loc), va_P D vwCl ((ab_ws cA ad h).set a (ad a, .inr (ci, (fs.map (ab_v ad)).set k (ab_v ad v)))) H1 → va_D A ((ab_ws cA ad h).set a (ad a, .inr (ci, (fs.map (ab_v ad)).set k (ab_v ad v)))) → va_S A s.heap H1 locs1 → W p l e R s m args below meth c H1 locs1 cells slots Q (F0 m (pc + 3) ls (R'.map (ab_v ad))) := by
        intro H1 locs1 p1 p2 p3
        have e1 : (ab_ws cA ad h).set a (ad a, .inr (ci, (fs.map (ab_v ad)).set k (ab_v ad v))) = ab_ws cA ad (h.set a (.inr (ci, fs.set k v))) := by
          rw [← ab_ws_set]
          show _ = (ab_ws cA ad h).set a (ad a, .inr (ci, (fs.set k v).map (ab_v ad)))
          rw [List.map_set]
        rw [e1] at p1 p2
        exact K ls H1 locs1 hL ⟨p1, p2, p3⟩
      by_cases hfin : (T k).2.2.2 = true
      · have h5 : (ab_y j).1.name = "<init>" ∧ (T k).1 = (ab_y j).1.cls := by
          rcases hR.2 with z | z
          · rw [hfin] at z; cases z
          · exact z
        exact va_putF (D := D) (ci := ci) (v := ab_v ad v) (C := C) (T := T) (N := N) hx hb hts c1 (ab_tys ci).2 c2 c3 hown hK hP hD hS a (ab_ws_at h1) hq k hR.1.1 (hts _ (ab_wd_mem hR.1.2).1) (fun _ h9 => h9) hfin (hin h5.1) h5.2 (c2 k hR.1.1) f1 f2 (by simpa using h2) hd key
      · exact va_put (D := D) (ci := ci) (v := ab_v ad v) (C := C) (T := T) (N := N) hx hb hts c1 (ab_tys ci).2 c2 c3 hown hK hP hD hS a (ab_ws_at h1) hq k hR.1.1 (hts _ (ab_wd_mem hR.1.2).1) (fun _ h9 => h9) (by simpa using hfin) (c2 k hR.1.1) f1 f2 (by simpa using h2) hd key
  case getstatic i =>
    obtain rfl : ln = 3 := Nat.eq_of_beq_eq_true hln
    match rs, hR, hst with
    | [950, z, pl], hR, hst =>
      cases hst
      have hR : (decide ((ab_y j).1.cls = RX1) && decide (i = 81)) = true := hR
      simp only [Bool.and_eq_true, decide_eq_true_eq] at hR
      rw [hR.2] at hd
      rw [hR.1] at hown
      exact va_getsN hx hb hC.2.2.1 hS hown (va_Nw.use rfl hN.2.2.1) (fun _ h9 => h9) hd (K ls hL)
    | [951, z, pl], hR, hst =>
      cases hst
      exact va_gets hx hb hC.2.2.2.1 hS hown (hts _ (ab_wd_mem hR).1) (fun _ h9 => h9) hd (K ls hL)
  case iaload =>
    obtain rfl : ln = 1 := Nat.eq_of_beq_eq_true hln
    obtain ⟨i, a, R', n, f, rfl, h1, h2, rfl⟩ := ab_ial_i hst
    exact va_iald hx hb hK hP a 1 (ab_ws_at h1) rfl h2 hd (K ls hL)
  case baload =>
    obtain rfl : ln = 1 := Nat.eq_of_beq_eq_true hln
    rcases ab_bal_i hst with ⟨i, a, R', n, f, rfl, h1, h2, rfl⟩ | ⟨i, a, R', rfl, h1, h2, h3, rfl⟩
    · rcases h1 with h1 | h1
      · exact va_bald hx hb hK hP a 0 (ab_ws_at h1) rfl h2 hd (K ls hL)
      · exact va_zald hx hb hK hP a 3 (ab_ws_at h1) rfl h2 hd (K ls hL)
    · obtain ⟨g1, g2, g3, g4⟩ := hC.1.1 (a - 920) (by omega)
      have ea : 920 + (a - 920) = a := by omega
      simp only [ea] at g4
      have eL : ([4, 5, 4, 2, 3, 3, 3, 4, 5] : List Nat).getD (a - 920) 0 = (ab_str.getD (a - 920) []).length := by
        have : a - 920 < 9 := by omega
        generalize a - 920 = z at this
        revert z
        decide
      rw [eL] at g4
      exact va_tb hx hb g4 hS h3 rfl hd (K ls hL)
  case laload =>
    obtain rfl : ln = 1 := Nat.eq_of_beq_eq_true hln
    rcases ab_lal_i hst with ⟨i, a, R', n, f, rfl, h1, h2, rfl⟩ | ⟨i, R', rfl, h2, rfl⟩
    · exact va_lald hx hb hK hP a 2 (ab_ws_at h1) rfl h2 hd (K ls hL)
    · exact va_tl hx hb hC.2.1 hS h2 rfl hd (K ls hL)
  case aaload =>
    obtain rfl : ln = 1 := Nat.eq_of_beq_eq_true hln
    obtain ⟨i, a, R', t, n, f, q, rfl, ht, h1, h2, h3, rfl⟩ := ab_aal_i hst
    have hlt : i.toNatClampNeg < n := Nat.not_le.mp fun q => h2 (Or.inr q)
    have K2 := K ls hL
    have e1 : va_rf ((fun j => if j < n then (f j).map ad else none) i.toNatClampNeg) = .ref (ad q) := by
      show va_rf (if i.toNatClampNeg < n then _ else _) = _
      rw [if_pos hlt, h3]; rfl
    rcases ht with rfl | rfl
    · refine va_aldq hx hb hK hP a 4 (ab_ws_at h1) rfl h2 hd ?_
      rw [e1]; exact K2
    · refine va_aldq hx hb hK hP a 5 (ab_ws_at h1) rfl h2 hd ?_
      rw [e1]; exact K2
  case iastore =>
    obtain rfl : ln = 1 := Nat.eq_of_beq_eq_true hln
    obtain ⟨x, i, a, R', n, f, rfl, h1, h2, rfl⟩ := ab_ias_i hst
    refine va_iast hx hb hK hP hD hS a 1 (ab_ws_at h1) rfl h2 hd (fun H1 locs1 p1 p2 p3 => ?_)
    exact K ls H1 locs1 hL ⟨(ab_ws_set (x := .inl (1, n, .inl (upd f i.toNatClampNeg x)))) ▸ p1, (ab_ws_set (x := .inl (1, n, .inl (upd f i.toNatClampNeg x)))) ▸ p2, p3⟩
  case bastore =>
    obtain rfl : ln = 1 := Nat.eq_of_beq_eq_true hln
    obtain ⟨x, i, a, R', n, f, rfl, h2, h3⟩ := ab_bas_i hst
    rcases h3 with ⟨h1, rfl⟩ | ⟨h1, rfl⟩
    · refine va_bast hx hb hK hP hD hS a 0 (ab_ws_at h1) rfl h2 hd (fun H1 locs1 p1 p2 p3 => ?_)
      exact K ls H1 locs1 hL ⟨(ab_ws_set (x := .inl (0, n, .inl (upd f i.toNatClampNeg (vp_nar .byte x))))) ▸ p1, (ab_ws_set (x := .inl (0, n, .inl (upd f i.toNatClampNeg (vp_nar .byte x))))) ▸ p2, p3⟩
    · refine va_zast hx hb hK hP hD hS a 3 (ab_ws_at h1) rfl h2 hd (fun H1 locs1 p1 p2 p3 => ?_)
      exact K ls H1 locs1 hL ⟨(ab_ws_set (x := .inl (3, n, .inl (upd f i.toNatClampNeg (vp_nar .boolean x))))) ▸ p1, (ab_ws_set (x := .inl (3, n, .inl (upd f i.toNatClampNeg (vp_nar .boolean x))))) ▸ p2, p3⟩
  case lastore =>
    obtain rfl : ln = 1 := Nat.eq_of_beq_eq_true hln
    obtain ⟨x, i, a, R', n, f, rfl, h1, h2, rfl⟩ := ab_las_i hst
    refine va_last hx hb hK hP hD hS a 2 (ab_ws_at h1) rfl h2 hd (fun H1 locs1 p1 p2 p3 => ?_)
    exact K ls H1 locs1 hL ⟨(ab_ws_set (x := .inl (2, n, .inr (.inl (vp_updL f i.toNatClampNeg x))))) ▸ p1, (ab_ws_set (x := .inl (2, n, .inr (.inl (vp_updL f i.toNatClampNeg x))))) ▸ p2, p3⟩
  case aastore =>
    obtain rfl : ln = 1 := Nat.eq_of_beq_eq_true hln
    obtain ⟨v, i, a, R', t, n, f, ci, fs, rfl, h1, hv, ht, h2, rfl⟩ := ab_aas_i hst
    have hlt : i.toNatClampNeg < n := Nat.not_le.mp fun q => h2 (Or.inr q)
    have e1 : va_up (fun j => if j < n then (f j).map ad else none) i.toNatClampNeg (some (ad v)) = (fun j => if j < n then (va_up f i.toNatClampNeg (some v) j).map ad else none) := by
      funext q
      unfold va_up
      by_cases hq : q = i.toNatClampNeg
      · subst hq
        simp [hlt]
      · simp [hq]
    have key : ∀ (H1 : Heap) (locs1 : List Loc), va_P D vwCl ((ab_ws cA ad h).set a (ad a, .inl (cA t, n, .inr (.inr (.inr (.inr (va_up (fun j => if j < n then (f j).map ad else none) i.toNatClampNeg (some (ad v))))))))) H1 → va_D A ((ab_ws cA ad h).set a (ad a, .inl (cA t, n, .inr (.inr (.inr (.inr (va_up (fun j => if j < n then (f j).map ad else none) i.toNatClampNeg (some (ad v))))))))) → va_S A s.heap H1 locs1 → W p l e R s m args below meth c H1 locs1 cells slots Q (F0 m (pc + 1) ls (R'.map (ab_v ad))) := by
      intro H1 locs1 p1 p2 p3
      rw [e1] at p1 p2
      exact K ls H1 locs1 hL ⟨(ab_ws_set (x := .inl (t, n, .inr (.inr (.inr (.inr (va_up f i.toNatClampNeg (some v)))))))) ▸ p1, (ab_ws_set (x := .inl (t, n, .inr (.inr (.inr (.inr (va_up f i.toNatClampNeg (some v)))))))) ▸ p2, p3⟩
    rcases ht with ⟨rfl, rfl⟩ | ⟨rfl, rfl⟩
    · exact va_astq (r := (RX0, TX0, 3)) hx hb hK hP hD hS a 4 v 0 (ab_ws_at h1) rfl (ab_ws_at hv) rfl h2 hd key
    · exact va_astq (r := (RX5, TX5, 3)) hx hb hK hP hD hS a 5 v 5 (ab_ws_at h1) rfl (ab_ws_at hv) rfl h2 hd key
  case arraylength =>
    obtain rfl : ln = 1 := Nat.eq_of_beq_eq_true hln
    rcases ab_len_i hst with ⟨a, R', t, x, rfl, ht, h1, rfl⟩ | ⟨R', rfl, rfl⟩ | ⟨a, R', rfl, h1, h2, rfl⟩
    · have K2 := K ls hL
      have h3 := ab_ws_at (cA := cA) (ad := ad) h1
      have hty := ab_ty6 cA t ht
      obtain ⟨ty, hty⟩ := hty
      refine va_alen hx hb hK hP a t (x := ab_x ad x) h3 hty (v := Int32.ofNat x.1) (by rw [ab_x_1]) hd K2
    · exact va_tlen hx hb hC.2.1 hS rfl hd (K ls hL)
    · obtain ⟨g1, g2, g3, g4⟩ := hC.1.1 (a - 920) (by omega)
      have ea : 920 + (a - 920) = a := by omega
      simp only [ea] at g4
      have eL : ([4, 5, 4, 2, 3, 3, 3, 4, 5] : List Nat).getD (a - 920) 0 = (ab_str.getD (a - 920) []).length := by
        have : a - 920 < 9 := by omega
        generalize a - 920 = z at this
        revert z
        decide
      rw [eL] at g4
      exact va_tlen hx hb g4 hS rfl hd (K ls hL)
  case newarray at_ =>
    obtain rfl : ln = 2 := Nat.eq_of_beq_eq_true hln
    match rs, hR, hst with
    | [k, pl], hR, hst =>
      have hR : (decide (k < 4) && decide (newarray.typeOf at_ = ab_tyn k) && ab_wd pl (.arrayClass (newarray.typeOf at_))) = true := hR
      simp only [Bool.and_eq_true, decide_eq_true_eq] at hR
      obtain ⟨n, R', x, rfl, hn, h4, hmk, hx4⟩ := ab_newa_i hst
      obtain ⟨h9, o1, o2, o3, rfl⟩ := ab_mk_i hmk
      obtain ⟨kc, ks, K3⟩ := K
      have harr := hts _ (ab_wd_mem hR.2).1
      have hbytes : ∀ z : Nat, z ≤ 8 → n.toNatClampNeg * z ≤ 536870912 := fun z hz => Nat.le_trans (Nat.mul_le_mul h4 hz) (by decide)
      rcases hx4 with ⟨rfl, rfl⟩ | ⟨rfl, rfl⟩ | ⟨rfl, rfl⟩ | ⟨rfl, rfl⟩
      · refine va_newa (atype := at_) (ty := .byte) hx hb harr hR.1.2 hK hP hD hS hA (a0 := (n.toNatClampNeg, .inl (fun _ => 0))) (fun _ => rfl) hn rfl (hbytes _ (by decide)) kc ks hd (fun q cB H1 hK' hP' hD' hS' => ?_)
        have e1 := (hK'.2 6 (cB, .byte) rfl).2
        have e2 := (hK.2 0 (cA 0, .byte) rfl).2
        have e3 : cB = cA 0 := Option.some.inj (e1.symm.trans e2)
        subst e3
        exact ab_al h9 o1 o2 o3 hL K3 rfl hP' hD' hS'
      · refine va_newa (atype := at_) (ty := .int) hx hb harr hR.1.2 hK hP hD hS hA (a0 := (n.toNatClampNeg, .inl (fun _ => 0))) (fun _ => rfl) hn rfl (hbytes _ (by decide)) kc ks hd (fun q cB H1 hK' hP' hD' hS' => ?_)
        have e1 := (hK'.2 6 (cB, .int) rfl).2
        have e2 := (hK.2 1 (cA 1, .int) rfl).2
        have e3 : cB = cA 1 := Option.some.inj (e1.symm.trans e2)
        subst e3
        exact ab_al h9 o1 o2 o3 hL K3 rfl hP' hD' hS'
      · refine va_newa (atype := at_) (ty := .long) hx hb harr hR.1.2 hK hP hD hS hA (a0 := (n.toNatClampNeg, .inr (.inl (fun _ => 0)))) (fun _ => rfl) hn rfl (hbytes _ (by decide)) kc ks hd (fun q cB H1 hK' hP' hD' hS' => ?_)
        have e1 := (hK'.2 6 (cB, .long) rfl).2
        have e2 := (hK.2 2 (cA 2, .long) rfl).2
        have e3 : cB = cA 2 := Option.some.inj (e1.symm.trans e2)
        subst e3
        exact ab_al h9 o1 o2 o3 hL K3 rfl hP' hD' hS'
      · refine va_newa (atype := at_) (ty := .boolean) hx hb harr hR.1.2 hK hP hD hS hA (a0 := (n.toNatClampNeg, .inl (fun _ => 0))) (fun _ => rfl) hn rfl (hbytes _ (by decide)) kc ks hd (fun q cB H1 hK' hP' hD' hS' => ?_)
        have e1 := (hK'.2 6 (cB, .boolean) rfl).2
        have e2 := (hK.2 3 (cA 3, .boolean) rfl).2
        have e3 : cB = cA 3 := Option.some.inj (e1.symm.trans e2)
        subst e3
        exact ab_al h9 o1 o2 o3 hL K3 rfl hP' hD' hS'
  case anewarray i =>
    obtain rfl : ln = 3 := Nat.eq_of_beq_eq_true hln
    match rs, hR, hst with
    | [k, pl], hR, hst =>
      have hR : ((decide (k = 4) && ab_wd pl (.classLink (ab_y j).1.cls i RX0)) || (decide (k = 5) && ab_wd pl (.classLink (ab_y j).1.cls i RX5))) = true := hR
      simp only [Bool.and_eq_true, decide_eq_true_eq, Bool.or_eq_true] at hR
      obtain ⟨n, R', rfl, hn, h4, hmk⟩ := ab_anew_i hst
      obtain ⟨h9, o1, o2, o3, rfl⟩ := ab_mk_i hmk
      obtain ⟨kc, ks, K3⟩ := K
      have e0 : ∀ ad' : Nat → Nat, ab_e cA ad' (.inl (k, n.toNatClampNeg, .inr (.inr (.inr (.inr (fun _ => none)))))) = .inl (cA k, n.toNatClampNeg, .inr (.inr (.inr (.inr (fun _ => none))))) := by
        intro ad'
        show Sum.inl (cA k, n.toNatClampNeg, Sum.inr (Sum.inr (Sum.inr (Sum.inr (fun j => if j < n.toNatClampNeg then none else none))))) = _
        simp
      have hbytes : n.toNatClampNeg * 4 ≤ 536870912 := Nat.le_trans (Nat.mul_le_mul h4 (Nat.le_refl 4)) (by decide)
      rcases hR with ⟨rfl, hR2⟩ | ⟨rfl, hR2⟩
      · refine va_newq (C := RX0) hx hb hown (hts _ (ab_wd_mem hR2).1) hN.2.2.2.1 hK hP hD hS hA hn rfl hbytes kc ks hd (fun q cB H1 hK' hP' hD' hS' => ?_)
        obtain ⟨kA1, comp1, -, -, -, e1⟩ := (hK'.2 6 (cB, .object RX0) rfl).2
        obtain ⟨kA2, comp2, -, -, -, e2⟩ := (hK.2 4 (cA 4, .object RX0) rfl).2
        have e3 : cB = cA 4 := Option.some.inj (e1.symm.trans e2)
        subst e3
        exact ab_al h9 o1 o2 o3 hL K3 (e0 _) hP' hD' hS'
      · refine va_newq (C := RX5) hx hb hown (hts _ (ab_wd_mem hR2).1) hN.2.2.2.2 hK hP hD hS hA hn rfl hbytes kc ks hd (fun q cB H1 hK' hP' hD' hS' => ?_)
        obtain ⟨kA1, comp1, -, -, -, e1⟩ := (hK'.2 6 (cB, .object RX5) rfl).2
        obtain ⟨kA2, comp2, -, -, -, e2⟩ := (hK.2 5 (cA 5, .object RX5) rfl).2
        have e3 : cB = cA 5 := Option.some.inj (e1.symm.trans e2)
        subst e3
        exact ab_al h9 o1 o2 o3 hL K3 (e0 _) hP' hD' hS'
  case new i =>
    obtain rfl : ln = 3 := Nat.eq_of_beq_eq_true hln
    match rs, hR, hst with
    | [ci, p1, p2, p3], hR, hst =>
      have hR2 : ∃ C T N, vwCl[ci]? = some (C, T, N) ∧ ab_wd p1 (.classLink (ab_y j).1.cls i C) = true ∧ ab_wd p2 (.instantiable C N) = true ∧ ab_wd p3 (.initialized C) = true := by
        have hR3 : (match vwCl[ci]? with
          | some (C, _, N) => ab_wd p1 (.classLink (ab_y j).1.cls i C) && ab_wd p2 (.instantiable C N) && ab_wd p3 (.initialized C)
          | none => false) = true := hR
        cases hq : vwCl[ci]? with
        | none => rw [hq] at hR3; cases hR3
        | some q =>
          obtain ⟨C, T, N⟩ := q
          rw [hq] at hR3
          simp only [Bool.and_eq_true] at hR3
          exact ⟨C, T, N, rfl, hR3.1.1, hR3.1.2, hR3.2⟩
      obtain ⟨C, T, N, hq, w1, w2, w3⟩ := hR2
      obtain ⟨h9, o1, o2, o3, rfl⟩ := ab_mk_i hst
      obtain ⟨kc, ks, K3⟩ := K
      obtain ⟨c1, c2, c3, c4, c5⟩ := ab_cls hq
      have hlen : ab_sz (.inr (ci, (List.range (ab_tys ci).1).map fun k => ab_df ((ab_tys ci).2 k))) = N := by
        show ((List.range (ab_tys ci).1).map fun k => ab_df ((ab_tys ci).2 k)).length = N
        simp [c4]
      rw [hlen] at ks K3
      have e0 : ∀ ad' : Nat → Nat, ab_e cA ad' (.inr (ci, (List.range (ab_tys ci).1).map fun k => ab_df ((ab_tys ci).2 k))) = .inr (ci, (List.range (ab_tys ci).1).map fun k => ab_df ((ab_tys ci).2 k)) := by
        intro ad'
        show Sum.inr (ci, List.map (ab_v ad') _) = _
        rw [List.map_map]
        congr 2
        refine List.map_congr_left fun k _ => ?_
        show ab_v ad' (ab_df _) = ab_df _
        cases (ab_tys ci).2 k <;> rfl
      refine va_new (D := D) (ci := ci) (fs := (List.range (ab_tys ci).1).map fun k => ab_df ((ab_tys ci).2 k)) (C := C) (T := T) (N := N) hx hb hts c1 (ab_tys ci).2 c2 hown (hts _ (ab_wd_mem w1).1) (hts _ (ab_wd_mem w2).1) (hts _ (ab_wd_mem w3).1) hK hP hD hS hA hq (fun k hk => ?_) kc ks hd (fun q H1 hP' hD' hS' => ?_)
      · rw [← c5 k hk]
        unfold vp_V
        rw [c4, List.getD_eq_getElem?_getD, List.getElem?_map, List.getElem?_range hk]
        rfl
      · have := ab_al (slots := slots) h9 o1 o2 o3 hL (by rw [hlen]; exact K3) (e0 _) hP' hD' hS'
        rw [hlen] at this
        exact this
  case invokespecial i =>
    obtain rfl : ln = 3 := Nat.eq_of_beq_eq_true hln
    have hR0 := hR
    simp only [ab_okR] at hR0
    split at hR0
    · next pl =>
      obtain ⟨b, R', rfl, h1, rfl⟩ := ab_obj_i hst
      have hr1 := ab_room_ok (ad := ad) h1
      refine W.objInit hx hb hown (hts _ (ab_wd_mem hR0).1) (hts _ ab_oi_code.2) (hts _ ab_oi_code.1) (g := F0 m pc ls ((Value.ref b :: R').map (ab_v ad))) rfl hsz (a := ad b) (rest := R'.map (ab_v ad)) rfl hd (by omega) ?_ (K ls hL)
      show 2 * 0 + _ + 12 ≤ R.locals
      omega
    · next j2 pl hne =>
      have hst2 : ab_inz (ab_nf j2).1 j2 (pc + 3) L S = some r := by
        simp only [ab_stp] at hst
        exact hst
      simp only [Bool.and_eq_true, decide_eq_true_eq, Bool.not_eq_true'] at hR0
      obtain ⟨⟨⟨⟨hj2, hst0⟩, hni⟩, hrt⟩, hlk⟩ := hR0
      obtain ⟨m1, m2, m3, m4, m5, m6, m7, m8, m9, m10⟩ := ab_meth hj2
      obtain ⟨b, R', g1, g2, g3, rfl⟩ := ab_inz_i hst2
      obtain ⟨rm, mc, ms, free, Pc, Qc, hM, hrc, hrs, hf1, hf2, hbl, hPc, hcap, K3⟩ := K hj2
      rw [hst0] at m2
      refine K3 ls pc _ hL rfl ?_
      exact va_runI (As := ((S.take (ab_nf j2).1).reverse).map (ab_v ad)) (rest := R'.map (ab_v ad)) (b := ad b) (n := (ab_nf j2).1) (bytes := (ab_y j2).2.1) (maxL := (ab_y j2).2.2.1) ⟨hx, hb, hml, hown, hts⟩ hM (cwI (ab_nf j2).1 hts (ab_GG hj2) (by rw [ab_wy, hrt]) hrc hrs (hts _ m4) (hts _ (ab_wd_mem hlk).1) (hts _ m2) hni m6 ⟨hf1, by omega⟩) ⟨hbl, hPc⟩ rfl (by simp; omega) (by rw [← hml]; exact hsz) (ab_stk g2) (by show 2 * 0 + _ ≤ 8; have := ab_room_ok (ad := ad) g3; omega) hd hcap
    · cases hR0
  case invokevirtual i =>
    obtain rfl : ln = 3 := Nat.eq_of_beq_eq_true hln
    match rs, hR, hst with
    | [j2, pl, 0], hR, hst =>
      have hR : (decide (j2 < ab_N) && !(ab_y j2).2.2.2.2.1 && decide ((ab_y j2).1.name ≠ "<init>") && ab_wd pl (.methodLink (ab_y j).1.cls i (ab_y j2).1)) = true := hR
      simp only [Bool.and_eq_true, decide_eq_true_eq, Bool.not_eq_true'] at hR
      obtain ⟨⟨⟨hj2, hst0⟩, hni⟩, hlk⟩ := hR
      obtain ⟨m1, m2, m3, m4, m5, m6, m7, m8, m9, m10⟩ := ab_meth hj2
      obtain ⟨b, R', g1, g2, g3, g4, rfl⟩ := ab_inv_i hst
      obtain ⟨rm, mc, ms, free, Pc, Qc, hM, hrc, hrs, hf1, hf2, hbl, hPc, hcap, K3⟩ := K hj2
      rw [hst0] at m2
      have hcls : (if (ab_nf j2).2.1 = 90 then (ab_y j2).1.cls = "java/lang/String" else vwCl[(ab_nf j2).2.1]?.map (fun r => r.1) = some (ab_y j2).1.cls) := by
        rcases m10 with z | z
        · rw [hst0] at z; cases z
        · exact z
      have hsel : Jvm.Cond.selects (ab_y j2).1.cls (ab_y j2).1 (ab_y j2).1 ∈ ab_G := by
        rcases m3 with z | z | z
        · rw [hst0] at z; cases z
        · exact absurd z hni
        · exact z
      have hrv : ∃ cellB : Cell, H[ad b]? = some cellB ∧ cellB.vm.isStatics = false ∧ s.vm.findClass (ab_y j2).1.cls = some cellB.cls := by
        rcases g4 with ⟨fs, g4⟩ | ⟨g4, g5, g6⟩
        · obtain ⟨q, hq, -⟩ := hP b _ (ab_ws_at g4)
          have hq : vwCl[(ab_nf j2).2.1]? = some q := hq
          have hc9 : ¬ (ab_nf j2).2.1 = 90 := fun z => by rw [z] at hq; simp [vwCl] at hq
          rw [if_neg hc9, hq] at hcls
          have hcls : q.1 = (ab_y j2).1.cls := Option.some.inj hcls
          rw [← hcls]
          exact va_recv hK hP hq (ab_ws_at g4)
        · rw [if_pos g4] at hcls
          rw [hcls]
          have hv := vk_recv hC.1 (i := b - 900) (by omega) hS
          have ea : 900 + (b - 900) = b := by omega
          simp only [ea] at hv
          exact hv
      refine K3 ls pc _ hL rfl ?_
      exact va_runV (As := ((S.take (ab_nf j2).1).reverse).map (ab_v ad)) (rest := R'.map (ab_v ad)) (b := ad b) (C := (ab_y j2).1.cls) (n := (ab_nf j2).1) (ret := (ab_y j2).2.2.2.1) (bytes := (ab_y j2).2.1) (maxL := (ab_y j2).2.2.1) ⟨hx, hb, hml, hown, hts⟩ hM (cwV (ab_nf j2).1 hts (ab_GV hj2 (ab_wd_mem hlk).1 m2 hsel m4) rfl hrc hrs ⟨rfl, m6⟩ ⟨hf1, by omega⟩) ⟨hbl, hrv, hPc⟩ rfl (by simp; omega) (by rw [← hml]; exact hsz) (ab_stk g2) (by show 2 * 0 + _ ≤ 8; have := ab_room_ok (ad := ad) g3; omega) hd hcap
  case invokestatic i =>
    obtain rfl : ln = 3 := Nat.eq_of_beq_eq_true hln
    have hR0 := hR
    simp only [ab_okR] at hR0
    split at hR0
    · next pl =>
      obtain ⟨n, i1, R', rfl, h1, h2, h3, rfl⟩ := ab_chk_i hst
      have hG : GoodIn ab_G (va_wsS (ab_y j).1.cls i yJ0_checkIndex_df160 ab_wk) := by
        refine ab_G_good fun w hw => ?_
        simp only [va_wsS, ab_wk, List.cons_append, List.nil_append, List.mem_cons] at hw
        rcases hw with rfl | rfl | rfl | rfl | hw
        · exact (ab_wd_mem hR0).1
        · exact ab_wk_code.2.1
        · exact ab_wk_code.2.2
        · exact ab_wk_code.1
        · exact hw
      have hr1 := ab_room_ok (ad := ad) h1
      refine ab_run0 (va_runS (As := [.int i1, .int n]) (rest := R'.map (ab_v ad)) (n := 2) (ret := none) (bytes := cJ0_checkIndex_df160) (maxL := 2) ⟨hx, hb, hml, hown, hts⟩ (hck i1 n (fun q => H.size ≤ q) H.size h2 h3) (va_cwS 2 hts hG rfl rfl rfl (by decide +kernel) ⟨by show 1 + 1 ≤ _; omega, by show 8 + (2 + 11) + 60 ≤ _; omega⟩) ⟨fun a U g mk q => ⟨q.1, q.2.1, q.2.2.1, va_Zq.moved (u := U) (U := U.calling g mk a) (Vm.Alike.refl U.vm) q.2.2.2⟩, fun U hU hW => ⟨rfl, by rw [hU], fun q hq => hq, ?_⟩⟩ rfl rfl (by rw [← hml]; exact hsz) rfl (by show 2 * 0 + _ ≤ 8; omega) hd ⟨by omega, by omega⟩) (K ls hL)
      have hz := hC.2.2.2.2
      rw [hU]
      have hz2 : va_Zq "jdk/internal/util/Preconditions" "SIOOBE_FORMATTER" "Ljava/util/function/BiFunction;" A s H := va_Zq.kept hz hS.2.1
      exact va_Zq.moved hW.alike (va_Zq.narrow hz2 (fun q hq => hA q (Nat.le_trans hS.1 hq)))
    · next j2 pl hne =>
      have hst2 : ab_ins (ab_nf j2).1 j2 (pc + 3) L S = some r := by
        simp only [ab_stp] at hst
        exact hst
      simp only [Bool.and_eq_true, decide_eq_true_eq] at hR0
      obtain ⟨⟨hj2, hst0⟩, hlk⟩ := hR0
      obtain ⟨m1, m2, m3, m4, m5, m6, m7, m8, m9, m10⟩ := ab_meth hj2
      obtain ⟨g1, g3, rfl⟩ := ab_ins_i hst2
      obtain ⟨rm, mc, ms, free, Pc, Qc, hM, hrc, hrs, hf1, hf2, hbl, hPc, hcap, K3⟩ := K hj2
      rw [hst0] at m2
      refine K3 ls pc _ hL rfl ?_
      exact va_runS (As := ((S.take (ab_nf j2).1).reverse).map (ab_v ad)) (rest := (S.drop (ab_nf j2).1).map (ab_v ad)) (n := (ab_nf j2).1) (ret := (ab_y j2).2.2.2.1) (bytes := (ab_y j2).2.1) (maxL := (ab_y j2).2.2.1) ⟨hx, hb, hml, hown, hts⟩ hM (va_cwS (ab_nf j2).1 hts (ab_GS hj2 (ab_wd_mem hlk).1 m2) rfl hrc hrs m6 ⟨hf1, by omega⟩) ⟨hbl, hPc⟩ rfl (by simp; omega) (by rw [← hml]; exact hsz) ab_stkS (by show 2 * 0 + _ ≤ 8; have := ab_room_ok (ad := ad) g3; omega) hd hcap
    · next j2 pl =>
      simp only [Bool.and_eq_true, decide_eq_true_eq] at hR0
      obtain ⟨⟨hj2, hst0⟩, hlk⟩ := hR0
      have hst2 : ab_ins (ab_nf j2).1 j2 (pc + 3) L S = some r := by
        have hne : j2 = 999 → False := fun z => by rw [z] at hj2; exact absurd hj2 (by decide)
        simp only [ab_stp] at hst
        exact hst
      obtain ⟨m1, m2, m3, m4, m5, m6, m7, m8, m9, m10⟩ := ab_meth hj2
      obtain ⟨g1, g3, rfl⟩ := ab_ins_i hst2
      obtain ⟨rm, mc, ms, free, Pc, Qc, hM, hrc, hrs, hf1, hf2, hbl, hPc, hcap, K3⟩ := K hj2
      rw [hst0] at m2
      refine K3 ls pc _ hL rfl ?_
      exact va_runSN (As := ((S.take (ab_nf j2).1).reverse).map (ab_v ad)) (rest := (S.drop (ab_nf j2).1).map (ab_v ad)) (n := (ab_nf j2).1) (ret := (ab_y j2).2.2.2.1) (bytes := (ab_y j2).2.1) (maxL := (ab_y j2).2.2.1) (host := RX8) ⟨hx, hb, hml, hown, hts⟩ hM ⟨va_cnB (ab_nf j2).1 hts (ab_GG hj2) rfl hrc hrs (hN.2.1 _ hlk) (hts _ m4) m6 ⟨hf1, by omega⟩, hts _ m2, trivial⟩ ⟨hbl, hPc⟩ rfl (by simp; omega) (by rw [← hml]; exact hsz) ab_stkS (by show 2 * 0 + _ ≤ 8; have := ab_room_ok (ad := ad) g3; omega) hd hcap
    · cases hR0
  all_goals (cases hst; done)
end ABS
