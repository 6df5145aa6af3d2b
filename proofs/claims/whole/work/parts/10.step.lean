/-! one step of the small machine is one of the machine's -/
/-- what has to hold behind a step -/
def ab_Kt (p : Program) (l : Launch) (e : Env) (R : Room) (s : State) (m : MethodId) (args : Array Value) (below : List Frame) (meth : Method) (c : Code) (H : Heap) (locs : List Loc) (cells slots : Nat) (Q : State → Prop) (D : va_G) (cA : Nat → ClassId) (ad : Nat → Nat) (A : Nat → Prop) (h : aH) (r : aR) : Prop := match r with
  | .inl (f, none) => ∀ ls' : Array Slot, ab_L ad ls' f.2.1 → W p l e R s m args below meth c H locs cells slots Q (F0 m f.1 ls' (f.2.2.map (ab_v ad)))
  | .inl (f, some (a, x)) => ∀ (ls' : Array Slot) (H' : Heap) (locs' : List Loc), ab_L ad ls' f.2.1 → ab_Wd D cA ad A s (h.set a x) H' locs' → W p l e R s m args below meth c H' locs' cells slots Q (F0 m f.1 ls' (f.2.2.map (ab_v ad)))
  | .inr (.inl (f, x)) => cells + 1 ≤ R.cells ∧ slots + ab_sz x ≤ R.slots ∧ ∀ (ls' : Array Slot) (q : Nat) (H' : Heap), ab_L (va_up ad h.length q) ls' f.2.1 → ab_Wd D cA (va_up ad h.length q) A s (h ++ [x]) H' locs → W p l e R s m args below meth c H' locs (cells + 1) (slots + ab_sz x) Q (F0 m f.1 ls' (.ref q :: f.2.2.map (ab_v (va_up ad h.length q))))
  | .inr (.inr (.inl v)) => ∃ (Qc : Array Value → State → Outcome → State → Prop) (free : Addr → Prop), Q = MQ below Qc args s cells slots free ∧ (∀ t : State, t.heap = H → s.WarmedH t.vm → Qc args s (.returned (v.map (ab_v ad))) t) ∧ ∀ q ∈ locs, free q.base
  | .inr (.inr (.inr (f, j, As))) => j < ab_N → ∃ (rm : Room) (mc ms : Nat) (free : Addr → Prop) (Pc : Array Value → State → Prop) (Qc : Array Value → State → Outcome → State → Prop), Met l (ab_y j).1 (ab_wy j) rm Pc Qc mc ms free ∧ rm.cells = mc ∧ rm.slots = ms ∧ rm.frames + 1 ≤ R.frames ∧ 40 + rm.locals ≤ R.locals ∧ FrameBlind Pc ∧ (∀ U : State, U.heap = H → s.WarmedH U.vm → Pc (As.map (ab_v ad)).toArray U) ∧ (cells + mc ≤ R.cells ∧ slots + ms ≤ R.slots)
      ∧ ∀ (ls' : Array Slot) (pc0 : Nat) (st0 : List Value), ab_L ad ls' f.2.1 → f.1 = pc0 + 3 → va_Run p l e R s m args below meth c H locs cells slots mc ms (F0 m pc0 ls' st0) (f.2.2.map (ab_v ad)) (Qc (As.map (ab_v ad)).toArray) free → W p l e R s m args below meth c H locs cells slots Q (F0 m pc0 ls' st0)
theorem ab_r1 {pc : Nat} {o : Int} {rs : List Nat} (h : (match rs with
    | [t] => decide ((pc : Int) + o = (t : Int))
    | _ => false) = true) : ∃ t, rs = [t] ∧ (pc : Int) + o = (t : Int) := by
  split at h
  · next t => exact ⟨t, rfl, of_decide_eq_true h⟩
  · cases h
theorem ab_cd_t {c : ClassFile.Cond} {x y : Int32} {t u : Nat} (h : ab_cd c x y = true) : (bif ab_cd c x y then t else u) = t := by rw [h]; rfl
theorem ab_cd_f {c : ClassFile.Cond} {x y : Int32} {t u : Nat} (h : ab_cd c x y = false) : (bif ab_cd c x y then t else u) = u := by rw [h]; rfl
theorem ab_ne_t {a : Prop} [Decidable a] (h : ¬ a) : (!decide a) = true := by simp [h]
theorem ab_ne_f {a : Prop} [Decidable a] (h : a) : (!decide a) = false := by simp [h]
theorem ab_room_ok {ad : Nat → Nat} {R : List Value} (h : ab_room R = true) : ((R.map (ab_v ad)).map fun v => v.category).sum ≤ 8 := by
  have h1 := Nat.le_of_ble_eq_true h
  have h2 : ((R.map (ab_v ad)).map fun v => v.category) = R.map ab_cat := by
    rw [List.map_map]
    exact List.map_congr_left fun v _ => ab_v_cat ad v
  rw [h2]
  exact h1
theorem ab_fit_ok {ad : Nat → Nat} {ty : FieldType} {v : Value} (h : ab_fit ty v = true) : narrow ty (ab_v ad v) = ab_v ad v ∧ fits ty (ab_v ad v) = true := by
  unfold ab_fit at h
  split at h
  · exact ⟨rfl, rfl⟩
  · exact ⟨rfl, rfl⟩
  · next x =>
    simp only [Bool.or_eq_true, decide_eq_true_eq] at h
    rcases h with rfl | rfl
    · exact ⟨show narrow .boolean (.int 0) = .int 0 by decide, show fits .boolean (.int 0) = true by decide⟩
    · exact ⟨show narrow .boolean (.int 1) = .int 1 by decide, show fits .boolean (.int 1) = true by decide⟩
  · exact ⟨rfl, rfl⟩
  · exact ⟨rfl, rfl⟩
  · cases h
theorem ab_out_v {ad ad' : Nat → Nat} {n : Nat} {v : Value} (ho : ∀ k, k < n ∨ 900 ≤ k → ad' k = ad k) (h : ab_out n v = true) : ab_v ad' v = ab_v ad v := by
  cases v with
  | ref k =>
    have h : (Nat.blt k n || Nat.ble 900 k) = true := h
    rw [Bool.or_eq_true] at h
    show Value.ref (ad' k) = .ref (ad k)
    rcases h with h | h
    · rw [ho k (Or.inl (Nat.lt_of_succ_le (Nat.le_of_ble_eq_true h)))]
    · rw [ho k (Or.inr (Nat.le_of_ble_eq_true h))]
  | _ => rfl
theorem ab_out_S {ad ad' : Nat → Nat} {n : Nat} {S : List Value} (ho : ∀ k, k < n ∨ 900 ≤ k → ad' k = ad k) (h : S.all (ab_out n) = true) : S.map (ab_v ad') = S.map (ab_v ad) :=
  List.map_congr_left fun v hv => ab_out_v ho (List.all_eq_true.mp h v hv)
theorem ab_out_L {ad ad' : Nat → Nat} {n : Nat} {L : aL} {ls : Array Slot} (ho : ∀ k, k < n ∨ 900 ≤ k → ad' k = ad k) (h : ab_outL n L = true) (hL : ab_L ad ls L) : ab_L ad' ls L := by
  refine ⟨hL.1, hL.2.1, fun k v hk => ?_⟩
  have h1 := List.all_eq_true.mp h (some v) (List.mem_of_getElem? hk)
  rw [ab_out_v ho h1]
  exact hL.2.2 k v hk
theorem ab_out_e {cA : Nat → ClassId} {ad ad' : Nat → Nat} {n : Nat} {x : va_E} (ho : ∀ k, k < n ∨ 900 ≤ k → ad' k = ad k) (h : ab_outE n x = true) : ab_e cA ad' x = ab_e cA ad x := by
  obtain ⟨t, k, f | f | f | f | f⟩ | ⟨ci, fs⟩ := x
  · rfl
  · rfl
  · rfl
  · rfl
  · have h : ((List.range k).all fun j => match f j with
      | some q => ab_out n (.ref q)
      | none => true) = true := h
    have hf : (fun j => if j < k then (f j).map ad' else none) = (fun j => if j < k then (f j).map ad else none) := by
      funext j
      by_cases hj : j < k
      · rw [if_pos hj, if_pos hj]
        have h1 := List.all_eq_true.mp h j (List.mem_range.mpr hj)
        cases hf : f j with
        | none => rfl
        | some q =>
          rw [hf] at h1
          have h2 := ab_out_v (ad := ad) (ad' := ad') ho h1
          show some (ad' q) = some (ad q)
          rw [Value.ref.inj h2]
      · rw [if_neg hj, if_neg hj]
    show Sum.inl (cA t, k, Sum.inr (Sum.inr (Sum.inr (Sum.inr _)))) = Sum.inl (cA t, k, Sum.inr (Sum.inr (Sum.inr (Sum.inr _))))
    rw [hf]
  · show Sum.inr (ci, fs.map (ab_v ad')) = Sum.inr (ci, fs.map (ab_v ad))
    rw [ab_out_S ho h]
theorem ab_out_h {cA : Nat → ClassId} {ad : Nat → Nat} {h : aH} {x : va_E} {q : Nat} (h9 : h.length < 900) (hh : h.all (ab_outE h.length) = true) : ab_ws cA ad h ++ [(q, ab_e cA (va_up ad h.length q) x)] = ab_ws cA (va_up ad h.length q) (h ++ [x]) := by
  refine ab_ws_push (by simp [va_up]) fun i y hi => ?_
  have hl := (List.getElem?_eq_some_iff.mp hi).1
  refine ⟨by simp [va_up]; omega, ab_out_e (n := h.length) (fun k hk => ?_) (List.all_eq_true.mp hh y (List.mem_of_getElem? hi))⟩
  unfold va_up
  rw [if_neg (by omega)]
