/-! what the start gives: the tables of classes and arrays, the constants -/
theorem lw_w {args : Array Value} {s : State} (hts : ∀ w ∈ lw_tbl, w.before args s = true) (pl : Nat) (w : Jvm.Cond) (h : lw_tbl[pl]? = some w) : w.before args s = true := hts w (List.mem_of_getElem? h)
theorem lw_inst {args : Array Value} {s : State} (hts : ∀ w ∈ lw_tbl, w.before args s = true) {ci : Nat} {C : String} {T : u_T} {N : Nat} (h : vwCl[ci]? = some (C, T, N)) : (Jvm.Cond.instantiable C N).before args s = true := by
  match ci, h with
  | 0, h => cases h; exact lw_w hts 266 _ (by decide +kernel)
  | 1, h => cases h; exact lw_w hts 220 _ (by decide +kernel)
  | 2, h => cases h; exact lw_w hts 107 _ (by decide +kernel)
  | 3, h => cases h; exact lw_w hts 183 _ (by decide +kernel)
  | 4, h => cases h; exact lw_w hts 113 _ (by decide +kernel)
  | 5, h => cases h; exact lw_w hts 290 _ (by decide +kernel)
  | 6, h => cases h; exact lw_w hts 89 _ (by decide +kernel)
  | 7, h => cases h; exact lw_w hts 250 _ (by decide +kernel)
  | 8, h => cases h; exact lw_w hts 81 _ (by decide +kernel)
  | 9, h => cases h; exact lw_w hts 776 _ (by decide +kernel)
  | ci + 10, h => cases h
theorem lw_ary {args : Array Value} {s : State} {ty : FieldType} (h : (Jvm.Cond.arrayClass ty).before args s = true) (hr : ∀ c : ClassId, s.vm.findClass ("[" ++ ty.toString) = some c → va_RA s c ty) : ∃ c : ClassId, ArrOfT s c ty ∧ va_RA s c ty := by
  obtain ⟨c, k, comp, h1, h2, h3⟩ := Cond.arrayClass_spec h
  exact ⟨c, fun n z => ⟨fun k h => (by cases h), k, h2, comp, h3⟩, hr c h1⟩
theorem lw_aro {args : Array Value} {s : State} {C : String} (h : (Jvm.Cond.arrayOver (.object C)).before args s = true) : ∃ c : ClassId, ArrOfT s c (.object C) ∧ va_RA s c (.object C) := by
  obtain ⟨comp, c, k, h1, h2, h3, h4, h5⟩ := Cond.arrayOver_spec h
  exact ⟨c, fun n z => ⟨fun k h => (by cases h), k, h3, comp, h4⟩, k, comp, h3, h4, h1, h5⟩
theorem lw_K {args : Array Value} {s : State} (hts : ∀ w ∈ lw_tbl, w.before args s = true) : ∃ (D : va_G) (cA : Nat → ClassId), va_K D vwCl (ab_tyl cA) s := by
  have hG : ∀ w ∈ ab_G, w.before args s = true := fun w hw => hts w (List.mem_filter.mp hw).1
  have hk : ∀ ci : Nat, ∃ q : ClassId × (Nat → Nat), ∀ (r : vw_C), vwCl[ci]? = some r → u_Kn s r.1 r.2.1 r.2.2 q.1 q.2 := by
    intro ci
    cases hc : vwCl[ci]? with
    | none => exact ⟨(0, fun _ => 0), fun r h => by cases h⟩
    | some r =>
      obtain ⟨C, T, N⟩ := r
      obtain ⟨cC, iS, h⟩ := u_known (C := C) (T := T) (N := N) hG (ab_cls hc).1 (lw_inst hts hc)
      exact ⟨(cC, iS), fun r h2 => by cases h2; exact h⟩
  obtain ⟨d, hd⟩ := Classical.axiomOfChoice hk
  obtain ⟨c0, a0⟩ := lw_ary (s := s) (lw_w hts 105 (.arrayClass .byte) (by decide +kernel)) (fun _ h => h)
  obtain ⟨c1, a1⟩ := lw_ary (s := s) (lw_w hts 160 (.arrayClass .int) (by decide +kernel)) (fun _ h => h)
  obtain ⟨c2, a2⟩ := lw_ary (s := s) (lw_w hts 247 (.arrayClass .long) (by decide +kernel)) (fun _ h => h)
  obtain ⟨c3, a3⟩ := lw_ary (s := s) (lw_w hts 248 (.arrayClass .boolean) (by decide +kernel)) (fun _ h => h)
  obtain ⟨c4, a4⟩ := lw_aro (s := s) (lw_w hts 265 (.arrayOver (.object RX0)) (by decide +kernel))
  obtain ⟨c5, a5⟩ := lw_aro (s := s) (lw_w hts 289 (.arrayOver (.object RX5)) (by decide +kernel))
  refine ⟨(fun k => (d k).1, fun k => (d k).2), fun k => match k with | 0 => c0 | 1 => c1 | 2 => c2 | 3 => c3 | 4 => c4 | _ => c5, fun c q h => hd c q h, ?_⟩
  intro k q h
  match k, h with
  | 0, h => cases h; exact a0
  | 1, h => cases h; exact a1
  | 2, h => cases h; exact a2
  | 3, h => cases h; exact a3
  | 4, h => cases h; exact a4
  | 5, h => cases h; exact a5
  | k + 6, h => cases h
def lw_tm (i : Nat) : Jvm.Term := .string "ScopedPhrases$Parser" (ab_sr.getD i ("", 0, "")).2.1
def lw_len : List Nat := [4, 5, 4, 2, 3, 3, 3, 4, 5]
def lw_fl : List Jvm.Cond := flatC (Jvm.Cond.and given_1 narrow_1)
theorem lw_c1 : ∀ i, i < 9 → Jvm.Cond.exactly (lw_tm i) "java/lang/String" ∈ lw_fl := by decide +kernel
theorem lw_c2 : ∀ i, i < 9 → Jvm.Cond.eq (.field (lw_tm i) "java/lang/String" "coder" "B") (.int 0) ∈ lw_fl := by decide +kernel
theorem lw_c3 : ∀ i, i < 9 → Jvm.Cond.arrayOf (.field (lw_tm i) "java/lang/String" "value" "[B") .byte ∈ lw_fl := by decide +kernel
theorem lw_c4 : ∀ i, i < 9 → Jvm.Cond.eq (.length (.field (lw_tm i) "java/lang/String" "value" "[B")) (.int (Int32.ofNat (lw_len.getD i 0))) ∈ lw_fl := by decide +kernel
theorem lw_c5 : ∀ i, i < 9 → ∀ j, j < lw_len.getD i 0 → Jvm.Cond.eq (.elem (.field (lw_tm i) "java/lang/String" "value" "[B") (.int (Int32.ofNat j))) (.int ((ab_str.getD i []).getD j 0)) ∈ lw_fl := by decide +kernel
theorem lw_c6 : ∀ i, i < 9 → ∀ j, j < 9 → i ≠ j → Jvm.Cond.not (Jvm.Cond.eq (lw_tm i) (lw_tm j)) ∈ lw_fl ∨ Jvm.Cond.not (Jvm.Cond.eq (lw_tm j) (lw_tm i)) ∈ lw_fl := by decide +kernel
theorem lw_c7 : ∀ j, j < 6 → Jvm.Cond.eq (.elem (.static "ScopedPhrases" "LOW_BITS" "[J") (.int (Int32.ofNat j))) (.long (ab_low.getD j 0)) ∈ lw_fl := by decide +kernel
theorem lw_c8 : ∀ w ∈ ab_nest, w ∈ lw_tbl ∧ w.onTables = true := by decide +kernel
def lw_ac (adK adV : Nat → Nat) (t : Nat) (k : Nat) : Nat := if k < 920 then adK (k - 900) else if k < 950 then adV (k - 920) else t
theorem lw_acK {adK adV : Nat → Nat} {t i : Nat} (h : i < 9) : lw_ac adK adV t (900 + i) = adK i := by
  unfold lw_ac
  rw [if_pos (by omega), Nat.add_sub_cancel_left]
theorem lw_acV {adK adV : Nat → Nat} {t i : Nat} (h : i < 9) : lw_ac adK adV t (920 + i) = adV i := by
  unfold lw_ac
  rw [if_neg (by omega), if_pos (by omega), Nat.add_sub_cancel_left]
set_option maxHeartbeats 4000000 in
theorem lw_cst {args : Array Value} {s : State} (hts : ∀ w ∈ lw_tbl, w.before args s = true) (hgv : (Jvm.Cond.and given_1 narrow_1).before args s = true) : ∃ (D : va_G) (cA : Nat → ClassId) (ad : Nat → Nat), ab_En D cA ad (fun q => s.heap.size ≤ q) s := by
  obtain ⟨D, cA, hK⟩ := lw_K hts
  have hs : ∀ c ∈ lw_fl, c.before args s = true := flat_of_before _ hgv
  have hA : ∀ a : Nat, a < s.heap.size → ¬ (fun q : Nat => s.heap.size ≤ q) a := fun a h => Nat.not_le.mpr h
  obtain ⟨adK, adV, hS, hev⟩ := vk_Sof (args := args) (s := s) (N := 9) (tm := lw_tm) (len := lw_len) (byt := ab_str) (A := fun q => s.heap.size ≤ q) (by decide) (fun i hi => hs _ (lw_c1 i hi)) (fun i hi => hs _ (lw_c2 i hi)) (fun i hi => hs _ (lw_c3 i hi)) (fun i hi => hs _ (lw_c4 i hi)) (fun i hi j hj => hs _ (lw_c5 i hi j hj)) (fun i j hi hj hn => (lw_c6 i hi j hj hn).imp (hs _) (hs _)) hA
  obtain ⟨t, ht, hT⟩ := va_Tof (args := args) (s := s) (tm := .static "ScopedPhrases" "LOW_BITS" "[J") (ty := .long) (N := 6) (f := fun j => .long (ab_low.getD j 0)) (A := fun q => s.heap.size ≤ q) (by decide) (hs _ (by decide +kernel)) (va_eqt (z := Int32.ofNat 6) (hs _ (by decide +kernel))) (fun j hj => va_eqtl (hs _ (lw_c7 j hj))) hA
  have hz1 := va_Zref (A := fun q => s.heap.size ≤ q) (lw_w hts 524 (.laysStatic "ScopedPhrases" "LOW_BITS" "[J") (by decide +kernel)) (lw_w hts 65 (.initialized "ScopedPhrases") (by decide +kernel)) ht hA
  have hz2 := va_Zof (A := fun q => s.heap.size ≤ q) (v := .int 1) (lw_w hts 412 (.laysStatic "java/lang/String" "COMPACT_STRINGS" "Z") (by decide +kernel)) (lw_w hts 75 (.initialized "java/lang/String") (by decide +kernel)) (va_eqt (hs _ (by decide +kernel))) hA
  have hz3 := va_Zqof (A := fun q => s.heap.size ≤ q) (lw_w hts 428 (.laysStatic "jdk/internal/util/Preconditions" "SIOOBE_FORMATTER" "Ljava/util/function/BiFunction;") (by decide +kernel)) (lw_w hts 77 (.initialized "jdk/internal/util/Preconditions") (by decide +kernel)) (hs _ (by decide +kernel)) hA
  refine ⟨D, cA, lw_ac adK adV t, hK, ⟨⟨fun i hi => ?_, fun i j hi hj e => ?_⟩, hT, hz1, hz2, hz3⟩, ⟨fun i x hx => ?_, fun w hw => ?_, ?_, ?_, ?_⟩⟩
  · have h1 := hS.1 i hi
    dsimp only
    rw [lw_acK hi, lw_acV hi]
    exact h1
  · refine hS.2 i j hi hj ?_
    have e : lw_ac adK adV t (900 + i) = lw_ac adK adV t (900 + j) := e
    rw [lw_acK hi, lw_acK hj] at e
    exact e
  · have hi : i < 9 := (List.getElem?_eq_some_iff.mp hx).1
    rw [lw_acK hi]
    have h2 := hev i hi
    match i, hx, h2 with
    | 0, hx, h2 => cases hx; exact vk_R.of (lw_w hts 398 _ (by decide +kernel)) h2
    | 1, hx, h2 => cases hx; exact vk_R.of (lw_w hts 451 _ (by decide +kernel)) h2
    | 2, hx, h2 => cases hx; exact vk_R.of (lw_w hts 452 _ (by decide +kernel)) h2
    | 3, hx, h2 => cases hx; exact vk_R.of (lw_w hts 453 _ (by decide +kernel)) h2
    | 4, hx, h2 => cases hx; exact vk_R.of (lw_w hts 454 _ (by decide +kernel)) h2
    | 5, hx, h2 => cases hx; exact vk_R.of (lw_w hts 455 _ (by decide +kernel)) h2
    | 6, hx, h2 => cases hx; exact vk_R.of (lw_w hts 456 _ (by decide +kernel)) h2
    | 7, hx, h2 => cases hx; exact vk_R.of (lw_w hts 457 _ (by decide +kernel)) h2
    | 8, hx, h2 => cases hx; exact vk_R.of (lw_w hts 458 _ (by decide +kernel)) h2
    | i + 9, hx, _ => cases hx
  · exact va_Nw.of (lw_c8 w hw).2 (hts w (lw_c8 w hw).1)
  · exact va_Nw.of rfl (lw_w hts 523 _ (by decide +kernel))
  · exact va_AO.of (lw_w hts 265 _ (by decide +kernel))
  · exact va_AO.of (lw_w hts 289 _ (by decide +kernel))
