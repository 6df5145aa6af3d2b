/-! the law, from its entry to its loop -/
def lw_a0 (q : Nat) (ad : Nat → Nat) (k : Nat) : Nat := if k = 0 then q else ad k
theorem lw_a0_hi {q : Nat} {ad : Nat → Nat} : ∀ k, 900 ≤ k → lw_a0 q ad k = ad k := fun k h => if_neg (by omega)
set_option maxHeartbeats 4000000 in
/-- from the entry, for every script of at most 2560 ints, the law comes to its end with true -/
theorem whole_start {p : Program} {e : Env} {s : State} {m : MethodId} {below : List Frame} {meth : Method} {c : Code} (l : Launch) (hflags : l.flags = flags0) {b L : Nat} {xs : Nat → Int32} (hL : L ≤ 2560) (C0 : lw_At p s m meth c b L xs) : W p l e room_1 s m #[Value.ref b] below meth c s.heap [] 0 0 (lw_Z below #[Value.ref b] s) (entryFrame m ([Value.ref b] : List Value).toArray 4) := by
  obtain ⟨hx, hb, hr, hml, hown, hts, hX, hbl, hlocks, hgv⟩ := C0
  have hown : s.vm.findClass RL = some m.cls := hown
  have hG : ∀ w ∈ ab_G, w.before #[Value.ref b] s = true := fun w hw => hts w (List.mem_filter.mp hw).1
  have hA : ∀ q : Nat, s.heap.size ≤ q → (fun q : Nat => s.heap.size ≤ q) q := fun _ h => h
  have hbA : ¬ (fun q : Nat => s.heap.size ≤ q) b := Nat.not_le.mpr hbl
  obtain ⟨D, cA, ad0, En⟩ := lw_cst hts hgv
  obtain ⟨hx0, hm0, gx, gm, R⟩ := k_0
  obtain ⟨z1, z2, z3, z4⟩ := R.sz
  have hS : va_S (fun q : Nat => s.heap.size ≤ q) s.heap s.heap [] := va_S.rf
  have hP : va_P D vwCl [] s.heap := fun k q h => by simp at h
  have hD : va_D (fun q : Nat => s.heap.size ≤ q) [] := ⟨fun i j p q h => by simp at h, fun k q h => by simp at h⟩
  have hl := lv_entry ([.ref b]) (n := 4) (Nat.le_of_ble_eq_true rfl)
  rw [lg_entry_eq]
  generalize (lg_sl ([.ref b]) ++ List.replicate (4 - (lg_sl ([.ref b])).length) Slot.unset).toArray = ls at hl ⊢
  have hl : lv_has ls 4 [(0, .ref b)] := hl
  refine va_new (D := D) (cl := vwCl) (ci := 8) (fs := [.null, .null, .null, .null, .null, .null, .null, .null, .null]) (C := RX8) (T := TX8) (N := 9) (own := RL) (index := 7) hx hb hG (ab_cls (ci := 8) rfl).1 (ab_tys 8).2 (ab_cls (ci := 8) (C := RX8) (T := TX8) (N := 9) rfl).2.1 hown (lw_w hts 80 _ (by decide +kernel)) (lw_w hts 81 _ (by decide +kernel)) (lw_w hts 65 _ (by decide +kernel)) En.1 hP hD hS hA rfl (fun j hj => ?_) (Nat.le_of_ble_eq_true rfl) (Nat.le_of_ble_eq_true rfl) (by decide +kernel) (fun q0 H hP hD hS => ?_)
  · match j, hj with
    | 0, _ => rfl
    | 1, _ => rfl
    | 2, _ => rfl
    | 3, _ => rfl
    | 4, _ => rfl
    | 5, _ => rfl
    | 6, _ => rfl
    | 7, _ => rfl
    | 8, _ => rfl
    | j + 9, h => exact absurd h (by omega)
  refine lv_dup hx hb (by decide +kernel : decode code 3 = .ok (.dup, 1)) rfl ?_
  have hP0 : va_P D vwCl (ab_ws cA (lw_a0 q0 ad0) [.inr (8, [.null, .null, .null, .null, .null, .null, .null, .null, .null])]) H := hP
  have hD0 : va_D (fun q : Nat => s.heap.size ≤ q) (ab_ws cA (lw_a0 q0 ad0) [.inr (8, [.null, .null, .null, .null, .null, .null, .null, .null, .null])]) := hD
  refine lw_ci (ad := lw_a0 q0 ad0) (wr := []) (ab_ck l) 55 9 82 4 50 2471 [.ref q0] hx hb hml hown hG (by decide +kernel) (by decide +kernel) (by decide +kernel) (by decide +kernel) (by decide +kernel) rfl (Nat.le_of_ble_eq_true rfl) gx z1 z2 (En.congr lw_a0_hi) hP0 hD0 hS hA (fun k q h => by simp at h) (fun i j x y _ h => by simp at h) hl.1 (Nat.le_of_ble_eq_true rfl) ⟨Nat.le_of_ble_eq_true rfl, Nat.le_of_ble_eq_true rfl⟩ (by decide +kernel) ?_
  intro ad1 H1 locs1 had1 hPX hDX _ _ hS1
  have e0 : ad1 0 = q0 := had1 0 (Or.inl (by decide))
  have hc1 : ∀ k, 900 ≤ k → ad1 k = ad0 k := fun k hk => (had1 k (Or.inr hk)).trans (lw_a0_hi k hk)
  refine lv_astore_n (lv' := [(1, .ref q0), (0, .ref b)]) hx hb (by decide +kernel : decode code 7 = .ok (.astore_n 1, 1)) rfl hl (by decide) rfl (fun ls hl => ?_)
  refine va_new (D := D) (cl := vwCl) (ci := 9) (fs := [.null, .null, .null, .null, .null, .int (0 : Int32), .int (0 : Int32), .int (0 : Int32), .int (0 : Int32), .int (0 : Int32), .int (0 : Int32), .null, .null, .null, .int (0 : Int32), .int (0 : Int32), .null, .null, .null, .null, .null, .null, .null, .null, .null, .null, .int (0 : Int32), .null, .null, .int (0 : Int32), .null, .null, .null]) (C := RX9) (T := TX9) (N := 33) (own := RL) (index := 10) hx hb hG (ab_cls (ci := 9) rfl).1 (ab_tys 9).2 (ab_cls (ci := 9) (C := RX9) (T := TX9) (N := 33) rfl).2.1 hown (lw_w hts 775 _ (by decide +kernel)) (lw_w hts 776 _ (by decide +kernel)) (lw_w hts 74 _ (by decide +kernel)) En.1 hPX hDX hS1 hA rfl (fun j hj => ?_) (Nat.le_of_ble_eq_true rfl) (Nat.le_of_ble_eq_true rfl) (by decide +kernel) (fun q1 H2 hP2 hD2 hS2 => ?_)
  · match j, hj with
    | 0, _ => rfl
    | 1, _ => rfl
    | 2, _ => rfl
    | 3, _ => rfl
    | 4, _ => rfl
    | 5, _ => rfl
    | 6, _ => rfl
    | 7, _ => rfl
    | 8, _ => rfl
    | 9, _ => rfl
    | 10, _ => rfl
    | 11, _ => rfl
    | 12, _ => rfl
    | 13, _ => rfl
    | 14, _ => rfl
    | 15, _ => rfl
    | 16, _ => rfl
    | 17, _ => rfl
    | 18, _ => rfl
    | 19, _ => rfl
    | 20, _ => rfl
    | 21, _ => rfl
    | 22, _ => rfl
    | 23, _ => rfl
    | 24, _ => rfl
    | 25, _ => rfl
    | 26, _ => rfl
    | 27, _ => rfl
    | 28, _ => rfl
    | 29, _ => rfl
    | 30, _ => rfl
    | 31, _ => rfl
    | 32, _ => rfl
    | j + 33, h => exact absurd h (by omega)
  obtain ⟨hPX, hPm, hDX, hDm, hap⟩ := tw_new hP2 hD2
  refine lv_dup hx hb (by decide +kernel : decode code 11 = .ok (.dup, 1)) rfl ?_
  have hPm : va_P D vwCl (ab_ws cA (lw_a0 q1 ad0) [.inr (9, [.null, .null, .null, .null, .null, .int (0 : Int32), .int (0 : Int32), .int (0 : Int32), .int (0 : Int32), .int (0 : Int32), .int (0 : Int32), .null, .null, .null, .int (0 : Int32), .int (0 : Int32), .null, .null, .null, .null, .null, .null, .null, .null, .null, .null, .int (0 : Int32), .null, .null, .int (0 : Int32), .null, .null, .null])]) H2 := hPm
  have hDm : va_D (fun q : Nat => s.heap.size ≤ q) (ab_ws cA (lw_a0 q1 ad0) [.inr (9, [.null, .null, .null, .null, .null, .int (0 : Int32), .int (0 : Int32), .int (0 : Int32), .int (0 : Int32), .int (0 : Int32), .int (0 : Int32), .null, .null, .null, .int (0 : Int32), .int (0 : Int32), .null, .null, .null, .null, .null, .null, .null, .null, .null, .null, .int (0 : Int32), .null, .null, .int (0 : Int32), .null, .null, .null])]) := hDm
  refine lw_ci (ad := lw_a0 q1 ad0) (wr := ab_ws cA ad1 hx0) (ab_ck l) 101 12 777 12 23 4117 [.ref q1] hx hb hml hown hG (by decide +kernel) (by decide +kernel) (by decide +kernel) (by decide +kernel) (by decide +kernel) rfl (Nat.le_of_ble_eq_true rfl) gm z3 z4 (En.congr lw_a0_hi) hPm hDm hS2 hA hPX hap hl.1 (Nat.le_of_ble_eq_true rfl) ⟨Nat.le_of_ble_eq_true rfl, Nat.le_of_ble_eq_true rfl⟩ (by decide +kernel) ?_
  intro ad2 H3 locs3 had2 hPM hDM hap3 hPX3 hS3
  have e1 : ad2 0 = q1 := had2 0 (Or.inl (by decide))
  have hc2 : ∀ k, 900 ≤ k → ad2 k = ad0 k := fun k hk => (had2 k (Or.inr hk)).trans (lw_a0_hi k hk)
  refine lv_astore_n (lv' := [(2, .ref q1), (1, .ref q0), (0, .ref b)]) hx hb (by decide +kernel : decode code 15 = .ok (.astore_n 2, 1)) rfl hl (by decide) rfl (fun ls hl => ?_)
  refine lv_iconst (v := 0) hx hb (by decide +kernel : decode code 16 = .ok (.iconst 0, 1)) (by decide) ?_
  refine lv_istore_n (lv' := [(3, .int 0), (2, .ref q1), (1, .ref q0), (0, .ref b)]) hx hb (by decide +kernel : decode code 17 = .ok (.istore_n 3, 1)) rfl hl (by decide) rfl (fun ls hl => ?_)
  subst e0 e1
  exact lw_loop (adX := ad1) (adM := ad2) hL ⟨hx, hb, hml, hown, hG, ab_ck l, En.congr hc1, En.congr hc2, hA, hX, hbl, hbA⟩ hr hlocks ⟨Nat.le_of_ble_eq_true rfl, Nat.le_of_ble_eq_true rfl⟩ (L + 1) 0 (Nat.zero_le L) (by omega) hx0 hm0 H3 locs3 ⟨R, hPX3, hDX, hPM, hDM, hap3.symm, hS3⟩ ls (lv_sub hl [3, 2, 1, 0] rfl)
