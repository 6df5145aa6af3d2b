theorem ab_okC_all {mi : Nat} (h : mi < ab_N) : ab_okC mi = true := by
  have h : mi < 184 := h
  by_cases g8 : mi < 8
  · exact ab_chunk 0 8 ab_okC_0 (by omega) (by omega)
  by_cases g16 : mi < 16
  · exact ab_chunk 8 8 ab_okC_8 (by omega) (by omega)
  by_cases g24 : mi < 24
  · exact ab_chunk 16 8 ab_okC_16 (by omega) (by omega)
  by_cases g32 : mi < 32
  · exact ab_chunk 24 8 ab_okC_24 (by omega) (by omega)
  by_cases g40 : mi < 40
  · exact ab_chunk 32 8 ab_okC_32 (by omega) (by omega)
  by_cases g48 : mi < 48
  · exact ab_chunk 40 8 ab_okC_40 (by omega) (by omega)
  by_cases g56 : mi < 56
  · exact ab_chunk 48 8 ab_okC_48 (by omega) (by omega)
  by_cases g64 : mi < 64
  · exact ab_chunk 56 8 ab_okC_56 (by omega) (by omega)
  by_cases g72 : mi < 72
  · exact ab_chunk 64 8 ab_okC_64 (by omega) (by omega)
  by_cases g80 : mi < 80
  · exact ab_chunk 72 8 ab_okC_72 (by omega) (by omega)
  by_cases g88 : mi < 88
  · exact ab_chunk 80 8 ab_okC_80 (by omega) (by omega)
  by_cases g96 : mi < 96
  · exact ab_chunk 88 8 ab_okC_88 (by omega) (by omega)
  by_cases g104 : mi < 104
  · exact ab_chunk 96 8 ab_okC_96 (by omega) (by omega)
  by_cases g112 : mi < 112
  · exact ab_chunk 104 8 ab_okC_104 (by omega) (by omega)
  by_cases g120 : mi < 120
  · exact ab_chunk 112 8 ab_okC_112 (by omega) (by omega)
  by_cases g128 : mi < 128
  · exact ab_chunk 120 8 ab_okC_120 (by omega) (by omega)
  by_cases g136 : mi < 136
  · exact ab_chunk 128 8 ab_okC_128 (by omega) (by omega)
  by_cases g144 : mi < 144
  · exact ab_chunk 136 8 ab_okC_136 (by omega) (by omega)
  by_cases g152 : mi < 152
  · exact ab_chunk 144 8 ab_okC_144 (by omega) (by omega)
  by_cases g160 : mi < 160
  · exact ab_chunk 152 8 ab_okC_152 (by omega) (by omega)
  by_cases g168 : mi < 168
  · exact ab_chunk 160 8 ab_okC_160 (by omega) (by omega)
  by_cases g176 : mi < 176
  · exact ab_chunk 168 8 ab_okC_168 (by omega) (by omega)
  exact ab_chunk 176 8 ab_okC_176 (by omega) (by omega)

theorem ab_okY_all {mi : Nat} (h : mi < ab_N) : ab_okY mi = true := by
  have h : mi < 184 := h
  by_cases g23 : mi < 23
  · exact ab_chunk 0 23 ab_okY_0 (by omega) (by omega)
  by_cases g46 : mi < 46
  · exact ab_chunk 23 23 ab_okY_23 (by omega) (by omega)
  by_cases g69 : mi < 69
  · exact ab_chunk 46 23 ab_okY_46 (by omega) (by omega)
  by_cases g92 : mi < 92
  · exact ab_chunk 69 23 ab_okY_69 (by omega) (by omega)
  by_cases g115 : mi < 115
  · exact ab_chunk 92 23 ab_okY_92 (by omega) (by omega)
  by_cases g138 : mi < 138
  · exact ab_chunk 115 23 ab_okY_115 (by omega) (by omega)
  by_cases g161 : mi < 161
  · exact ab_chunk 138 23 ab_okY_138 (by omega) (by omega)
  exact ab_chunk 161 23 ab_okY_161 (by omega) (by omega)

theorem ab_chunkM {f g : Nat → Option Jvm.Cond} (a n : Nat) (h : (List.range n).map (fun i => f (a + i)) = (List.range n).map (fun i => g (a + i))) {mi : Nat} (h1 : a ≤ mi) (h2 : mi < a + n) : f mi = g mi := by
  have h3 := congrArg (fun l => l[mi - a]?) h
  have h4 : a + (mi - a) = mi := by omega
  simp only [List.getElem?_map, List.getElem?_range (show mi - a < n by omega), Option.map_some, h4] at h3
  exact Option.some.inj h3
theorem ab_cw_all {mi : Nat} (h : mi < ab_N) : lw_tbl[ab_pc mi]? = (match ab_y mi with | (y, b, mx, rt, _) => some (.code y b mx rt)) := by
  have h : mi < 184 := h
  by_cases g23 : mi < 23
  · exact ab_chunkM (f := fun i => lw_tbl[ab_pc i]?) (g := fun i => match ab_y i with | (y, b, mx, rt, _) => some (.code y b mx rt)) 0 23 ab_cw_0 (by omega) (by omega)
  by_cases g46 : mi < 46
  · exact ab_chunkM (f := fun i => lw_tbl[ab_pc i]?) (g := fun i => match ab_y i with | (y, b, mx, rt, _) => some (.code y b mx rt)) 23 23 ab_cw_23 (by omega) (by omega)
  by_cases g69 : mi < 69
  · exact ab_chunkM (f := fun i => lw_tbl[ab_pc i]?) (g := fun i => match ab_y i with | (y, b, mx, rt, _) => some (.code y b mx rt)) 46 23 ab_cw_46 (by omega) (by omega)
  by_cases g92 : mi < 92
  · exact ab_chunkM (f := fun i => lw_tbl[ab_pc i]?) (g := fun i => match ab_y i with | (y, b, mx, rt, _) => some (.code y b mx rt)) 69 23 ab_cw_69 (by omega) (by omega)
  by_cases g115 : mi < 115
  · exact ab_chunkM (f := fun i => lw_tbl[ab_pc i]?) (g := fun i => match ab_y i with | (y, b, mx, rt, _) => some (.code y b mx rt)) 92 23 ab_cw_92 (by omega) (by omega)
  by_cases g138 : mi < 138
  · exact ab_chunkM (f := fun i => lw_tbl[ab_pc i]?) (g := fun i => match ab_y i with | (y, b, mx, rt, _) => some (.code y b mx rt)) 115 23 ab_cw_115 (by omega) (by omega)
  by_cases g161 : mi < 161
  · exact ab_chunkM (f := fun i => lw_tbl[ab_pc i]?) (g := fun i => match ab_y i with | (y, b, mx, rt, _) => some (.code y b mx rt)) 138 23 ab_cw_138 (by omega) (by omega)
  exact ab_chunkM (f := fun i => lw_tbl[ab_pc i]?) (g := fun i => match ab_y i with | (y, b, mx, rt, _) => some (.code y b mx rt)) 161 23 ab_cw_161 (by omega) (by omega)

set_option maxRecDepth 100000 in
theorem ab_us0 : u_ws RX0 TX0 3 = ([281, 283, 285] : List Nat).filterMap (fun i => lw_tbl[i]?) := rfl
theorem ab_ug0 : (u_ws RX0 TX0 3).all goodWord = true := by decide +kernel
theorem ab_dd0 : ∀ k, k < 3 → ab_df (tyX0 k) = defaultValue (tyX0 k) := by decide +kernel
set_option maxRecDepth 100000 in
theorem ab_us1 : u_ws RX1 TX1 7 = ([232, 234, 236, 238, 240, 242, 244] : List Nat).filterMap (fun i => lw_tbl[i]?) := rfl
theorem ab_ug1 : (u_ws RX1 TX1 7).all goodWord = true := by decide +kernel
theorem ab_dd1 : ∀ k, k < 7 → ab_df (tyX1 k) = defaultValue (tyX1 k) := by decide +kernel
set_option maxRecDepth 100000 in
theorem ab_us2 : u_ws RX2 TX2 5 = ([169, 171, 173, 175, 177] : List Nat).filterMap (fun i => lw_tbl[i]?) := rfl
theorem ab_ug2 : (u_ws RX2 TX2 5).all goodWord = true := by decide +kernel
theorem ab_dd2 : ∀ k, k < 5 → ab_df (tyX2 k) = defaultValue (tyX2 k) := by decide +kernel
set_option maxRecDepth 100000 in
theorem ab_us3 : u_ws RX3 TX3 8 = ([202, 204, 206, 208, 210, 212, 214, 216] : List Nat).filterMap (fun i => lw_tbl[i]?) := rfl
theorem ab_ug3 : (u_ws RX3 TX3 8).all goodWord = true := by decide +kernel
theorem ab_dd3 : ∀ k, k < 8 → ab_df (tyX3 k) = defaultValue (tyX3 k) := by decide +kernel
set_option maxRecDepth 100000 in
theorem ab_us4 : u_ws RX4 TX4 7 = ([145, 147, 149, 151, 153, 155, 157] : List Nat).filterMap (fun i => lw_tbl[i]?) := rfl
theorem ab_ug4 : (u_ws RX4 TX4 7).all goodWord = true := by decide +kernel
theorem ab_dd4 : ∀ k, k < 7 → ab_df (tyX4 k) = defaultValue (tyX4 k) := by decide +kernel
set_option maxRecDepth 100000 in
theorem ab_us5 : u_ws RX5 TX5 3 = ([300, 302, 304] : List Nat).filterMap (fun i => lw_tbl[i]?) := rfl
theorem ab_ug5 : (u_ws RX5 TX5 3).all goodWord = true := by decide +kernel
theorem ab_dd5 : ∀ k, k < 3 → ab_df (tyX5 k) = defaultValue (tyX5 k) := by decide +kernel
set_option maxRecDepth 100000 in
theorem ab_us6 : u_ws RX6 TX6 2 = ([100, 102] : List Nat).filterMap (fun i => lw_tbl[i]?) := rfl
theorem ab_ug6 : (u_ws RX6 TX6 2).all goodWord = true := by decide +kernel
theorem ab_dd6 : ∀ k, k < 2 → ab_df (tyX6 k) = defaultValue (tyX6 k) := by decide +kernel
set_option maxRecDepth 100000 in
theorem ab_us7 : u_ws RX7 TX7 2 = ([259, 261] : List Nat).filterMap (fun i => lw_tbl[i]?) := rfl
theorem ab_ug7 : (u_ws RX7 TX7 2).all goodWord = true := by decide +kernel
theorem ab_dd7 : ∀ k, k < 2 → ab_df (tyX7 k) = defaultValue (tyX7 k) := by decide +kernel
set_option maxRecDepth 100000 in
theorem ab_us8 : u_ws RX8 TX8 9 = ([348, 350, 352, 354, 356, 358, 360, 362, 364] : List Nat).filterMap (fun i => lw_tbl[i]?) := rfl
theorem ab_ug8 : (u_ws RX8 TX8 9).all goodWord = true := by decide +kernel
theorem ab_dd8 : ∀ k, k < 9 → ab_df (tyX8 k) = defaultValue (tyX8 k) := by decide +kernel
set_option maxRecDepth 100000 in
theorem ab_us9 : u_ws RX9 TX9 33 = ([823, 825, 827, 829, 831, 833, 835, 837, 839, 841, 843, 845, 847, 849, 851, 853, 855, 857, 859, 861, 863, 865, 867, 869, 871, 873, 875, 877, 879, 881, 883, 885, 887] : List Nat).filterMap (fun i => lw_tbl[i]?) := rfl
theorem ab_ug9 : (u_ws RX9 TX9 33).all goodWord = true := by decide +kernel
theorem ab_dd9 : ∀ k, k < 33 → ab_df (tyX9 k) = defaultValue (tyX9 k) := by decide +kernel
theorem ab_us_in {ws : List Jvm.Cond} {ps : List Nat} (h : ws = ps.filterMap (fun i => lw_tbl[i]?)) (hg : ws.all goodWord = true) : ∀ w ∈ ws, w ∈ ab_G := by
  intro w hw
  have h1 := List.all_eq_true.mp hg w hw
  rw [h] at hw
  obtain ⟨i, -, hi⟩ := List.mem_filterMap.mp hw
  exact List.mem_filter.mpr ⟨List.mem_of_getElem? hi, h1⟩
/-- what is known of a kind of object -/
theorem ab_cls {ci : Nat} {C : String} {T : u_T} {N : Nat} (h : vwCl[ci]? = some (C, T, N)) : (∀ w ∈ u_ws C T N, w ∈ ab_G) ∧ (∀ k, k < N → parseFieldDescriptor (T k).2.2.1 = some ((ab_tys ci).2 k)) ∧ (∀ a, a < N → ∀ b, b < N → a ≠ b → (T a).2.1 ≠ (T b).2.1) ∧ (ab_tys ci).1 = N ∧ ∀ k, k < N → ab_df ((ab_tys ci).2 k) = defaultValue ((ab_tys ci).2 k) := by
  match ci, h with
  | 0, h => cases h; exact ⟨ab_us_in ab_us0 ab_ug0, tyX0_ok, nmX0, rfl, ab_dd0⟩
  | 1, h => cases h; exact ⟨ab_us_in ab_us1 ab_ug1, tyX1_ok, nmX1, rfl, ab_dd1⟩
  | 2, h => cases h; exact ⟨ab_us_in ab_us2 ab_ug2, tyX2_ok, nmX2, rfl, ab_dd2⟩
  | 3, h => cases h; exact ⟨ab_us_in ab_us3 ab_ug3, tyX3_ok, nmX3, rfl, ab_dd3⟩
  | 4, h => cases h; exact ⟨ab_us_in ab_us4 ab_ug4, tyX4_ok, nmX4, rfl, ab_dd4⟩
  | 5, h => cases h; exact ⟨ab_us_in ab_us5 ab_ug5, tyX5_ok, nmX5, rfl, ab_dd5⟩
  | 6, h => cases h; exact ⟨ab_us_in ab_us6 ab_ug6, tyX6_ok, nmX6, rfl, ab_dd6⟩
  | 7, h => cases h; exact ⟨ab_us_in ab_us7 ab_ug7, tyX7_ok, nmX7, rfl, ab_dd7⟩
  | 8, h => cases h; exact ⟨ab_us_in ab_us8 ab_ug8, tyX8_ok, nmX8, rfl, ab_dd8⟩
  | 9, h => cases h; exact ⟨ab_us_in ab_us9 ab_ug9, tyX9_ok, nmX9, rfl, ab_dd9⟩
  | k + 10, h => simp [vwCl] at h

/-- what the check says of a method -/
theorem ab_meth {j : Nat} (hj : j < ab_N) : Jvm.Cond.code (ab_y j).1 (ab_y j).2.1 (ab_y j).2.2.1 (ab_y j).2.2.2.1 ∈ ab_G ∧ (if (ab_y j).2.2.2.2.1 then Jvm.Cond.static (ab_y j).1 else .instanceMethod (ab_y j).1) ∈ ab_G ∧ ((ab_y j).2.2.2.2.1 = true ∨ (ab_y j).1.name = "<init>" ∨ Jvm.Cond.selects (ab_y j).1.cls (ab_y j).1 (ab_y j).1 ∈ ab_G) ∧ Jvm.Cond.initialized (ab_y j).1.cls ∈ ab_G ∧ plainName (ab_y j).1.cls = true
    ∧ ((ab_y j).1.cls ≠ "java/lang/invoke/MethodHandle" ∧ (ab_y j).1.cls ≠ "java/lang/invoke/VarHandle" ∧ (parseMethodDescriptor (ab_y j).1.desc).map (fun d => d.parameters.length) = some (ab_nf j).1) ∧ (ab_y j).2.2.1 ≤ 21 ∧ (ab_nf j).2.2 = (ab_y j).2.2.1 ∧ (ab_mt j).1 = (ab_y j).2.2.2.1 ∧ ((ab_y j).2.2.2.2.1 = true ∨ (if (ab_nf j).2.1 = 90 then (ab_y j).1.cls = "java/lang/String" else vwCl[(ab_nf j).2.1]?.map (fun r => r.1) = some (ab_y j).1.cls)) := by
  have h := ab_okY_all hj
  have hc := ab_cw_all hj
  unfold ab_okY at h
  generalize ab_y j = z at h hc ⊢
  obtain ⟨y, b, mx, rt, st, na, ci, p1, p2, p3, p4⟩ := z
  simp only [Bool.and_eq_true, decide_eq_true_eq, Bool.or_eq_true] at h hc
  obtain ⟨⟨⟨⟨⟨⟨⟨⟨⟨⟨⟨h1, h2⟩, h3⟩, h4⟩, h5⟩, h6⟩, h7⟩, h8⟩, h9⟩, h10⟩, h11⟩, h12⟩ := h
  refine ⟨List.mem_filter.mpr ⟨List.mem_of_getElem? hc, h1⟩, (ab_wd_mem h2).1, ?_, (ab_wd_mem h4).1, h5, ⟨h6, h7, ?_⟩, Nat.le_of_ble_eq_true h9, ?_, h11, ?_⟩
  · rcases h3 with (h3 | h3) | h3
    · exact Or.inl h3
    · exact Or.inr (Or.inl h3)
    · exact Or.inr (Or.inr (ab_wd_mem h3).1)
  · rw [h10]; exact h8
  · rw [h10]
  · rcases h12 with h12 | h12
    · exact Or.inl h12
    · refine Or.inr ?_
      rw [h10]
      split at h12
      · next g => rw [if_pos g]; simpa using h12
      · next g => rw [if_neg g]; simpa using h12
/-- what the check says of an instruction -/
theorem ab_look_ok {mi pc : Nat} {en : aE} (hmi : mi < ab_N) (h : ab_look (ab_mt mi).2 pc = some en) : ab_okE (ab_y mi).1 (ab_y mi).2.1 pc en = true := by
  have h1 := List.all_eq_true.mp (ab_okC_all hmi) pc (List.mem_range.mpr (ab_look_lt h))
  rw [h] at h1
  exact h1
theorem ab_k_ok (n : Int) : Int32.ofInt n = ab_k n := by
  cases n with
  | ofNat k => exact Int32.ofInt_eq_ofNat
  | negSucc k =>
    show Int32.ofInt (Int.negSucc k) = -(Int32.ofNat (k + 1))
    rw [Int.negSucc_eq, Int32.ofInt_neg]
    congr 1
