/-- String.checkIndex(i, n) with 0 ≤ i < n: it returns, nothing changes -/
def ab_wk : List Jvm.Cond := .code yJ0_checkIndex_df160 cJ0_checkIndex_df160 2 none :: ab_G
def ab_Ck (l : Launch) : Prop := ∀ (i n : Int32) (A : Nat → Prop) (sz : Nat), ¬ i < 0 → i < n → Met l yJ0_checkIndex_df160 ab_wk ({ frames := 1, cells := 0, slots := 0, locals := 60 }) (va_Pc [.int i, .int n] (fun U => U.heap.size = sz ∧ (∀ q, sz ≤ q → A q) ∧ va_Zq "jdk/internal/util/Preconditions" "SIOOBE_FORMATTER" "Ljava/util/function/BiFunction;" A U U.heap)) (fun _ st o t => o = .returned none ∧ t.heap = st.heap) 0 0 (fun _ => False)
theorem ab_wk_code : Jvm.Cond.code yJ0_checkIndex_df160 cJ0_checkIndex_df160 2 none ∈ ab_G ∧ Jvm.Cond.static yJ0_checkIndex_df160 ∈ ab_G ∧ Jvm.Cond.initialized "java/lang/String" ∈ ab_G := sorry
theorem ab_oi_code : Jvm.Cond.code objectInit ⟨#[0xb1]⟩ 1 none ∈ ab_G ∧ Jvm.Cond.instanceMethod objectInit ∈ ab_G := sorry
section ABS
variable {p : Program} {l : Launch} {e : Env} {R : Room} {s : State} {m : MethodId} {args : Array Value} {below : List Frame} {meth : Method} {c : Code} {H : Heap} {locs : List Loc} {cells slots : Nat} {Q : State → Prop}
variable {ad : Nat → Nat} {cA : Nat → ClassId} {D : va_G} {A : Nat → Prop} {h : aH} {pc : Nat} {L : aL} {S : List Value} {ls : Array Slot} {r : aR}
set_option maxHeartbeats 4000000 in
set_option maxRecDepth 100000 in
theorem ab_S {j : Nat} (hck : ab_Ck l) (F : ab_Fr p s m args meth c j) (En : ab_En D cA ad A s) (Wd : ab_Wd D cA ad A s h H locs) (hA : ∀ q, s.heap.size ≤ q → A q) (hL : ab_L ad ls L) (hLn : L.length = (ab_y j).2.2.1) (hfr : 4 ≤ R.frames) (hlo : 160 ≤ R.locals) (hcl : cells ≤ R.cells ∧ slots ≤ R.slots)
    {en : aE} (hok : ab_okE (ab_y j).1 (ab_y j).2.1 pc en = true) (hst : ab_stp ab_nf (ab_y j).2.2.2.1 en pc L S h = some r) (K : ab_Kt p l e R s m args below meth c H locs cells slots Q D cA ad A h r) : W p l e R s m args below meth c H locs cells slots Q (F0 m pc ls (S.map (ab_v ad))) := by
  obtain ⟨hx, hb, hr, hml, hown, hts, hlocks, hin⟩ := F
  obtain ⟨hK, hC, hN⟩ := En
  obtain ⟨hP, hD, hS⟩ := Wd
  obtain ⟨ins, ln, rs⟩ := en
  simp only [ab_okE, Bool.and_eq_true, decide_eq_true_eq] at hok
  obtain ⟨⟨hd, hln⟩, hR⟩ := hok
  have hsz : ls.size = c.maxLocals := by rw [hL.1, hLn, hml]
  cases ins
  case iconst n =>
    obtain rfl : ln = 1 := Nat.eq_of_beq_eq_true hln
    cases hst
    exact lv_iconst hx hb hd (ab_k_ok n) (K ls hL)
  case bipush n =>
    obtain rfl : ln = 2 := Nat.eq_of_beq_eq_true hln
    cases hst
    exact lv_bipush hx hb hd (of_decide_eq_true hR) (K ls hL)
  case sipush n =>
    obtain rfl : ln = 3 := Nat.eq_of_beq_eq_true hln
    cases hst
    exact lv_sipush hx hb hd (of_decide_eq_true hR) (K ls hL)
  case lconst n =>
    obtain rfl : ln = 1 := Nat.eq_of_beq_eq_true hln
    cases hst
    exact lv_lconst hx hb hd rfl (K ls hL)
  case iload_n k =>
    obtain rfl : ln = 1 := Nat.eq_of_beq_eq_true hln
    obtain ⟨x, h1, rfl⟩ := ab_ldi_i hst
    exact lv_iload_n hx hb hd rfl (hL.2.2 _ _ h1) (K ls hL)
  case iload k =>
    obtain rfl : ln = 2 := Nat.eq_of_beq_eq_true hln
    obtain ⟨x, h1, rfl⟩ := ab_ldi_i hst
    exact lv_iload hx hb hd (hL.2.2 _ _ h1) (K ls hL)
  case lload_n k =>
    obtain rfl : ln = 1 := Nat.eq_of_beq_eq_true hln
    obtain ⟨x, h1, rfl⟩ := ab_ldl_i hst
    exact lv_lload_n hx hb hd rfl (hL.2.2 _ _ h1) (K ls hL)
  case lload k =>
    obtain rfl : ln = 2 := Nat.eq_of_beq_eq_true hln
    obtain ⟨x, h1, rfl⟩ := ab_ldl_i hst
    exact lv_lload hx hb hd (hL.2.2 _ _ h1) (K ls hL)
  case aload_n k =>
    obtain rfl : ln = 1 := Nat.eq_of_beq_eq_true hln
    obtain ⟨x, h1, rfl⟩ := ab_lda_i hst
    exact lv_aload_n hx hb hd rfl (hL.2.2 _ _ h1) (K ls hL)
  case aload k =>
    obtain rfl : ln = 2 := Nat.eq_of_beq_eq_true hln
    obtain ⟨x, h1, rfl⟩ := ab_lda_i hst
    exact lv_aload hx hb hd (hL.2.2 _ _ h1) (K ls hL)
  case istore_n k =>
    obtain rfl : ln = 1 := Nat.eq_of_beq_eq_true hln
    obtain ⟨x, R', rfl, h1, rfl⟩ := ab_sti_i hst
    exact lv_istore_n hx hb hd rfl hL.has h1 rfl (fun ls' h' => K ls' (ab_L.st1 (v := .int x) h1 h'))
  case istore k =>
    obtain rfl : ln = 2 := Nat.eq_of_beq_eq_true hln
    obtain ⟨x, R', rfl, h1, rfl⟩ := ab_sti_i hst
    exact lv_istore hx hb hd hL.has h1 rfl (fun ls' h' => K ls' (ab_L.st1 (v := .int x) h1 h'))
  case lstore_n k =>
    obtain rfl : ln = 1 := Nat.eq_of_beq_eq_true hln
    obtain ⟨x, R', rfl, h1, rfl⟩ := ab_stl_i hst
    exact lv_lstore_n hx hb hd rfl hL.has h1 rfl (fun ls' h' => K ls' (ab_L.st2 (v := .long x) h1 h'))
  case lstore k =>
    obtain rfl : ln = 2 := Nat.eq_of_beq_eq_true hln
    obtain ⟨x, R', rfl, h1, rfl⟩ := ab_stl_i hst
    exact lv_lstore hx hb hd hL.has h1 rfl (fun ls' h' => K ls' (ab_L.st2 (v := .long x) h1 h'))
  case astore_n k =>
    obtain rfl : ln = 1 := Nat.eq_of_beq_eq_true hln
    obtain ⟨x, R', rfl, h1, rfl⟩ := ab_sta_i hst
    exact lv_astore_n hx hb hd rfl hL.has h1 rfl (fun ls' h' => K ls' (ab_L.st1 (v := .ref x) h1 h'))
  case astore k =>
    obtain rfl : ln = 2 := Nat.eq_of_beq_eq_true hln
    obtain ⟨x, R', rfl, h1, rfl⟩ := ab_sta_i hst
    exact lv_astore hx hb hd hL.has h1 rfl (fun ls' h' => K ls' (ab_L.st1 (v := .ref x) h1 h'))
  case iinc k n =>
    obtain rfl : ln = 3 := Nat.eq_of_beq_eq_true hln
    obtain ⟨x, h0, h1, rfl⟩ := ab_inc_i hst
    obtain ⟨i0, h2⟩ := List.getElem?_of_mem (ab_lv_mem (ad := ad) (q := (k, .int x)).mpr ⟨.int x, h0, rfl⟩)
    exact lv_iinc hx hb hd hL.has h2 (by rw [ab_k_ok]) h1 rfl (fun ls' h' => K ls' (ab_L.st1 (v := .int (x + ab_k n)) h1 h'))
  case iadd =>
    obtain rfl : ln = 1 := Nat.eq_of_beq_eq_true hln
    obtain ⟨x, y, R', rfl, rfl⟩ := ab_ii_i hst
    exact lv_iadd hx hb hd (K ls hL)
  case isub =>
    obtain rfl : ln = 1 := Nat.eq_of_beq_eq_true hln
    obtain ⟨x, y, R', rfl, rfl⟩ := ab_ii_i hst
    exact lv_isub hx hb hd (K ls hL)
  case imul =>
    obtain rfl : ln = 1 := Nat.eq_of_beq_eq_true hln
    obtain ⟨x, y, R', rfl, rfl⟩ := ab_ii_i hst
    exact lv_imul hx hb hd (K ls hL)
  case iand =>
    obtain rfl : ln = 1 := Nat.eq_of_beq_eq_true hln
    obtain ⟨x, y, R', rfl, rfl⟩ := ab_ii_i hst
    exact lv_iand hx hb hd (K ls hL)
  case ior =>
    obtain rfl : ln = 1 := Nat.eq_of_beq_eq_true hln
    obtain ⟨x, y, R', rfl, rfl⟩ := ab_ii_i hst
    exact lv_ior hx hb hd (K ls hL)
  case ishl =>
    obtain rfl : ln = 1 := Nat.eq_of_beq_eq_true hln
    obtain ⟨x, y, R', rfl, rfl⟩ := ab_ii_i hst
    exact lv_ishl hx hb hd (K ls hL)
  case ishr =>
    obtain rfl : ln = 1 := Nat.eq_of_beq_eq_true hln
    obtain ⟨x, y, R', rfl, rfl⟩ := ab_ii_i hst
    exact lv_ishr hx hb hd (K ls hL)
  case iushr =>
    obtain rfl : ln = 1 := Nat.eq_of_beq_eq_true hln
    obtain ⟨x, y, R', rfl, rfl⟩ := ab_ii_i hst
    exact lv_iushr hx hb hd rfl (K ls hL)
  case idiv =>
    obtain rfl : ln = 1 := Nat.eq_of_beq_eq_true hln
    obtain ⟨x, y, R', rfl, h0, rfl⟩ := ab_dv_i hst
    exact lv_idiv hx hb hd h0 (K ls hL)
  case irem =>
    obtain rfl : ln = 1 := Nat.eq_of_beq_eq_true hln
    obtain ⟨x, y, R', rfl, h0, rfl⟩ := ab_dv_i hst
    exact lv_irem hx hb hd h0 (K ls hL)
  case i2l =>
    obtain rfl : ln = 1 := Nat.eq_of_beq_eq_true hln
    obtain ⟨x, R', rfl, rfl⟩ := ab_i1_i hst
    exact lv_i2l hx hb hd rfl (K ls hL)
  case i2b =>
    obtain rfl : ln = 1 := Nat.eq_of_beq_eq_true hln
    obtain ⟨x, R', rfl, rfl⟩ := ab_i1_i hst
    exact lv_i2b hx hb hd rfl (K ls hL)
  case i2s =>
    obtain rfl : ln = 1 := Nat.eq_of_beq_eq_true hln
    obtain ⟨x, R', rfl, rfl⟩ := ab_i1_i hst
    exact lv_i2s hx hb hd rfl (K ls hL)
  case i2c =>
    obtain rfl : ln = 1 := Nat.eq_of_beq_eq_true hln
    obtain ⟨x, R', rfl, rfl⟩ := ab_i1_i hst
    exact lv_i2c hx hb hd rfl (K ls hL)
  case l2i =>
    obtain rfl : ln = 1 := Nat.eq_of_beq_eq_true hln
    obtain ⟨x, R', rfl, rfl⟩ := ab_l1_i hst
    exact lv_l2i hx hb hd rfl (K ls hL)
  case lneg =>
    obtain rfl : ln = 1 := Nat.eq_of_beq_eq_true hln
    obtain ⟨x, R', rfl, rfl⟩ := ab_l1_i hst
    exact lv_lneg hx hb hd (K ls hL)
  case ladd =>
    obtain rfl : ln = 1 := Nat.eq_of_beq_eq_true hln
    obtain ⟨x, y, R', rfl, rfl⟩ := ab_ll_i hst
    exact lv_ladd hx hb hd (K ls hL)
  case lsub =>
    obtain rfl : ln = 1 := Nat.eq_of_beq_eq_true hln
    obtain ⟨x, y, R', rfl, rfl⟩ := ab_ll_i hst
    exact lv_lsub hx hb hd (K ls hL)
  case land =>
    obtain rfl : ln = 1 := Nat.eq_of_beq_eq_true hln
    obtain ⟨x, y, R', rfl, rfl⟩ := ab_ll_i hst
    exact lv_land hx hb hd (K ls hL)
  case lor =>
    obtain rfl : ln = 1 := Nat.eq_of_beq_eq_true hln
    obtain ⟨x, y, R', rfl, rfl⟩ := ab_ll_i hst
    exact lv_lor hx hb hd (K ls hL)
  case lxor =>
    obtain rfl : ln = 1 := Nat.eq_of_beq_eq_true hln
    obtain ⟨x, y, R', rfl, rfl⟩ := ab_ll_i hst
    exact lv_lxor hx hb hd (K ls hL)
  case lcmp =>
    obtain rfl : ln = 1 := Nat.eq_of_beq_eq_true hln
    obtain ⟨x, y, R', rfl, rfl⟩ := ab_ll_i hst
    exact W.lcmp hx hb hd (K ls hL)
  case lshl =>
    obtain rfl : ln = 1 := Nat.eq_of_beq_eq_true hln
    obtain ⟨x, y, R', rfl, rfl⟩ := ab_li_i hst
    exact lv_lshl hx hb hd rfl (K ls hL)
  case lshr =>
    obtain rfl : ln = 1 := Nat.eq_of_beq_eq_true hln
    obtain ⟨x, y, R', rfl, rfl⟩ := ab_li_i hst
    exact lv_lshr hx hb hd rfl (K ls hL)
  case lushr =>
    obtain rfl : ln = 1 := Nat.eq_of_beq_eq_true hln
    obtain ⟨x, y, R', rfl, rfl⟩ := ab_li_i hst
    exact lv_lushr hx hb hd rfl (K ls hL)
  case dup =>
    obtain rfl : ln = 1 := Nat.eq_of_beq_eq_true hln
    obtain ⟨v, R', rfl, h0, rfl⟩ := ab_dup_i hst
    exact lv_dup hx hb hd ((ab_v_cat ad v).trans h0) (K ls hL)
  case pop =>
    obtain rfl : ln = 1 := Nat.eq_of_beq_eq_true hln
    obtain ⟨v, R', rfl, h0, rfl⟩ := ab_pop_i hst
    exact lv_pop hx hb hd ((ab_v_cat ad v).trans h0) (K ls hL)
  case dup2 =>
    obtain rfl : ln = 1 := Nat.eq_of_beq_eq_true hln
    obtain ⟨y, a, R', rfl, rfl⟩ := ab_dup2_i hst
    exact lv_dup2_11 hx hb hd rfl rfl (K ls hL)
  case goto o =>
    obtain rfl : ln = 3 := Nat.eq_of_beq_eq_true hln
    obtain ⟨t, rfl, ht⟩ := ab_r1 hR
    cases hst
    exact lv_goto hx hb hd ht (K ls hL)
  case if_icmp cd o =>
    obtain rfl : ln = 3 := Nat.eq_of_beq_eq_true hln
    obtain ⟨t, rfl, ht⟩ := ab_r1 hR
    obtain ⟨x, y, R', rfl, rfl⟩ := ab_br_i hst
    have K2 := K ls hL
    cases cd
    · refine lv_icmp_eq hx hb hd ht (fun q => ?_) (fun q => ?_)
      · rw [ab_cd_t (c := .eq) (decide_eq_true q)] at K2; exact K2
      · rw [ab_cd_f (c := .eq) (decide_eq_false q)] at K2; exact K2
    · refine lv_icmp_ne hx hb hd ht (fun q => ?_) (fun q => ?_)
      · rw [ab_cd_t (c := .ne) (ab_ne_t q)] at K2; exact K2
      · rw [ab_cd_f (c := .ne) (ab_ne_f q)] at K2; exact K2
    · refine lv_icmp_lt hx hb hd ht (fun q => ?_) (fun q => ?_)
      · rw [ab_cd_t (c := .lt) (decide_eq_true q)] at K2; exact K2
      · rw [ab_cd_f (c := .lt) (decide_eq_false q)] at K2; exact K2
    · refine lv_icmp_ge hx hb hd ht (fun q => ?_) (fun q => ?_)
      · rw [ab_cd_t (c := .ge) (decide_eq_true q)] at K2; exact K2
      · rw [ab_cd_f (c := .ge) (decide_eq_false q)] at K2; exact K2
    · refine lv_icmp_gt hx hb hd ht (fun q => ?_) (fun q => ?_)
      · rw [ab_cd_t (c := .gt) (decide_eq_true q)] at K2; exact K2
      · rw [ab_cd_f (c := .gt) (decide_eq_false q)] at K2; exact K2
    · refine lv_icmp_le hx hb hd ht (fun q => ?_) (fun q => ?_)
      · rw [ab_cd_t (c := .le) (decide_eq_true q)] at K2; exact K2
      · rw [ab_cd_f (c := .le) (decide_eq_false q)] at K2; exact K2
  case ifCond cd o =>
    obtain rfl : ln = 3 := Nat.eq_of_beq_eq_true hln
    obtain ⟨t, rfl, ht⟩ := ab_r1 hR
    obtain ⟨x, R', rfl, rfl⟩ := ab_bz_i hst
    have K2 := K ls hL
    cases cd
    · refine lv_if_eq hx hb hd ht (fun q => ?_) (fun q => ?_)
      · rw [ab_cd_t (c := .eq) (decide_eq_true q)] at K2; exact K2
      · rw [ab_cd_f (c := .eq) (decide_eq_false q)] at K2; exact K2
    · refine lv_if_ne hx hb hd ht (fun q => ?_) (fun q => ?_)
      · rw [ab_cd_t (c := .ne) (ab_ne_t q)] at K2; exact K2
      · rw [ab_cd_f (c := .ne) (ab_ne_f q)] at K2; exact K2
    · refine lv_if_lt hx hb hd ht (fun q => ?_) (fun q => ?_)
      · rw [ab_cd_t (c := .lt) (decide_eq_true q)] at K2; exact K2
      · rw [ab_cd_f (c := .lt) (decide_eq_false q)] at K2; exact K2
    · refine lv_if_ge hx hb hd ht (fun q => ?_) (fun q => ?_)
      · rw [ab_cd_t (c := .ge) (decide_eq_true q)] at K2; exact K2
      · rw [ab_cd_f (c := .ge) (decide_eq_false q)] at K2; exact K2
    · refine lv_if_gt hx hb hd ht (fun q => ?_) (fun q => ?_)
      · rw [ab_cd_t (c := .gt) (decide_eq_true q)] at K2; exact K2
      · rw [ab_cd_f (c := .gt) (decide_eq_false q)] at K2; exact K2
    · refine lv_if_le hx hb hd ht (fun q => ?_) (fun q => ?_)
      · rw [ab_cd_t (c := .le) (decide_eq_true q)] at K2; exact K2
      · rw [ab_cd_f (c := .le) (decide_eq_false q)] at K2; exact K2
  case ireturn =>
    obtain rfl : ln = 1 := Nat.eq_of_beq_eq_true hln
    obtain ⟨ty, x, h1, rfl, h2, rfl⟩ := ab_reti_i hst
    obtain ⟨Qc, free, rfl, hq, hf⟩ := K
    exact W.zret hx hb (hr.trans h1) h2 hq hf hd (hlocks := hlocks)
  case lreturn =>
    obtain rfl : ln = 1 := Nat.eq_of_beq_eq_true hln
    obtain ⟨x, h1, rfl, rfl⟩ := ab_retl_i hst
    obtain ⟨Qc, free, rfl, hq, hf⟩ := K
    exact W.lret hx hb (hr.trans h1) hq hf hd (hlocks := hlocks)
  case return_ =>
    obtain rfl : ln = 1 := Nat.eq_of_beq_eq_true hln
    obtain ⟨h1, rfl, rfl⟩ := ab_retv_i hst
    obtain ⟨Qc, free, rfl, hq, hf⟩ := K
    exact W.vret hx hb (hr.trans h1) hq hf hd (hlocks := hlocks)
  all_goals first | (cases hst; done) | sorry
end ABS
