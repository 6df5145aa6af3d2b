/-! each instruction of the small machine is one of the machine's -/
/-- the constants that lie outside -/
def ab_C (ad : Nat → Nat) (A : Nat → Prop) (U : State) (H : Heap) : Prop :=
  vk_S 9 [4, 5, 4, 2, 3, 3, 3, 4, 5] ab_str (fun i => ad (900 + i)) (fun i => ad (920 + i)) A U H ∧ va_T .long (ad 950) 6 (fun j => .long (ab_low.getD j 0)) A U H ∧ va_Z RX8 "LOW_BITS" "[J" (.ref (ad 950)) A U H ∧ va_Z "java/lang/String" "COMPACT_STRINGS" "Z" (.int 1) A U H ∧ va_Zq "jdk/internal/util/Preconditions" "SIOOBE_FORMATTER" "Ljava/util/function/BiFunction;" A U H
def ab_Nn (ad : Nat → Nat) (U : State) : Prop := (∀ (i : Nat) (x : String × Nat × String), ab_sr[i]? = some x → vk_R x.1 x.2.1 x.2.2 (ad (900 + i)) U) ∧ (∀ w ∈ ab_nest, va_Nw w U) ∧ va_Nw (.fieldLinkNest RX1 81 RX8 "LOW_BITS" "[J" RX8) U ∧ va_AO RX0 U ∧ va_AO RX5 U
def ab_En (D : va_G) (cA : Nat → ClassId) (ad : Nat → Nat) (A : Nat → Prop) (s : State) : Prop := va_K D vwCl (ab_tyl cA) s ∧ ab_C ad A s s.heap ∧ ab_Nn ad s
def ab_Wd (D : va_G) (cA : Nat → ClassId) (ad : Nat → Nat) (A : Nat → Prop) (s : State) (h : aH) (H : Heap) (locs : List Loc) : Prop := va_P D vwCl (ab_ws cA ad h) H ∧ va_D A (ab_ws cA ad h) ∧ va_S A s.heap H locs
def ab_Fr (p : Program) (s : State) (m : MethodId) (args : Array Value) (meth : Method) (c : Code) (j : Nat) : Prop := p.tables.exec = Jvm.exec ∧ c.code = (ab_y j).2.1 ∧ meth.sig.returnType = (ab_y j).2.2.2.1 ∧ c.maxLocals = (ab_y j).2.2.1 ∧ s.vm.findClass (ab_y j).1.cls = some m.cls ∧ (∀ w ∈ ab_G, w.before args s = true) ∧ meth.locks = false ∧ ((ab_y j).1.name = "<init>" → meth.name = "<init>")
def ab_wy (j : Nat) : List Jvm.Cond := .code (ab_y j).1 (ab_y j).2.1 (ab_y j).2.2.1 (ab_y j).2.2.2.1 :: ab_G
/-! what a step says of the stack, helper by helper -/
theorem ab_ii_i {f : Int32 → Int32 → Int32} {pc : Nat} {L : aL} {S : List Value} {r : aR} (h : ab_ii f pc L S = some r) : ∃ x y R, S = .int y :: .int x :: R ∧ r = .inl ((pc + 1, L, .int (f x y) :: R), none) := by
  unfold ab_ii at h
  split at h
  · exact ⟨_, _, _, rfl, (Option.some.inj h).symm⟩
  · cases h
theorem ab_dv_i {f : Int32 → Int32 → Int32} {pc : Nat} {L : aL} {S : List Value} {r : aR} (h : ab_dv f pc L S = some r) : ∃ x y R, S = .int y :: .int x :: R ∧ ¬ y = 0 ∧ r = .inl ((pc + 1, L, .int (f x y) :: R), none) := by
  unfold ab_dv at h
  split at h
  · split at h
    · cases h
    · next hy => exact ⟨_, _, _, rfl, hy, (Option.some.inj h).symm⟩
  · cases h
theorem ab_ll_i {f : Int64 → Int64 → Value} {pc : Nat} {L : aL} {S : List Value} {r : aR} (h : ab_ll f pc L S = some r) : ∃ x y R, S = .long y :: .long x :: R ∧ r = .inl ((pc + 1, L, f x y :: R), none) := by
  unfold ab_ll at h
  split at h
  · exact ⟨_, _, _, rfl, (Option.some.inj h).symm⟩
  · cases h
theorem ab_li_i {f : Int64 → Int32 → Int64} {pc : Nat} {L : aL} {S : List Value} {r : aR} (h : ab_li f pc L S = some r) : ∃ x y R, S = .int y :: .long x :: R ∧ r = .inl ((pc + 1, L, .long (f x y) :: R), none) := by
  unfold ab_li at h
  split at h
  · exact ⟨_, _, _, rfl, (Option.some.inj h).symm⟩
  · cases h
theorem ab_i1_i {f : Int32 → Value} {pc : Nat} {L : aL} {S : List Value} {r : aR} (h : ab_i1 f pc L S = some r) : ∃ x R, S = .int x :: R ∧ r = .inl ((pc + 1, L, f x :: R), none) := by
  unfold ab_i1 at h
  split at h
  · exact ⟨_, _, rfl, (Option.some.inj h).symm⟩
  · cases h
theorem ab_l1_i {f : Int64 → Value} {pc : Nat} {L : aL} {S : List Value} {r : aR} (h : ab_l1 f pc L S = some r) : ∃ x R, S = .long x :: R ∧ r = .inl ((pc + 1, L, f x :: R), none) := by
  unfold ab_l1 at h
  split at h
  · exact ⟨_, _, rfl, (Option.some.inj h).symm⟩
  · cases h
theorem ab_ldi_i {i pc : Nat} {L : aL} {S : List Value} {r : aR} (h : ab_ldi i pc L S = some r) : ∃ x, L[i]? = some (some (.int x)) ∧ r = .inl ((pc, L, .int x :: S), none) := by
  unfold ab_ldi at h
  split at h
  · next x hx => exact ⟨x, hx, (Option.some.inj h).symm⟩
  · cases h
theorem ab_ldl_i {i pc : Nat} {L : aL} {S : List Value} {r : aR} (h : ab_ldl i pc L S = some r) : ∃ x, L[i]? = some (some (.long x)) ∧ r = .inl ((pc, L, .long x :: S), none) := by
  unfold ab_ldl at h
  split at h
  · next x hx => exact ⟨x, hx, (Option.some.inj h).symm⟩
  · cases h
theorem ab_lda_i {i pc : Nat} {L : aL} {S : List Value} {r : aR} (h : ab_lda i pc L S = some r) : ∃ x, L[i]? = some (some (.ref x)) ∧ r = .inl ((pc, L, .ref x :: S), none) := by
  unfold ab_lda at h
  split at h
  · next x hx => exact ⟨x, hx, (Option.some.inj h).symm⟩
  · cases h
theorem ab_st1_i {v : Value} {i pc : Nat} {L : aL} {R : List Value} {r : aR} (h : ab_st1 v i pc L R = some r) : i < L.length ∧ r = .inl ((pc, (ab_cut L i).set i (some v), R), none) := by
  unfold ab_st1 at h
  split at h
  · next hi => exact ⟨hi, (Option.some.inj h).symm⟩
  · cases h
theorem ab_st2_i {v : Value} {i pc : Nat} {L : aL} {R : List Value} {r : aR} (h : ab_st2 v i pc L R = some r) : i + 1 < L.length ∧ r = .inl ((pc, ((ab_cut L i).set i (some v)).set (i + 1) none, R), none) := by
  unfold ab_st2 at h
  split at h
  · next hi => exact ⟨hi, (Option.some.inj h).symm⟩
  · cases h
theorem ab_sti_i {i pc : Nat} {L : aL} {S : List Value} {r : aR} (h : ab_sti i pc L S = some r) : ∃ x R, S = .int x :: R ∧ i < L.length ∧ r = .inl ((pc, (ab_cut L i).set i (some (.int x)), R), none) := by
  unfold ab_sti at h
  split at h
  · obtain ⟨h1, h2⟩ := ab_st1_i h
    exact ⟨_, _, rfl, h1, h2⟩
  · cases h
theorem ab_stl_i {i pc : Nat} {L : aL} {S : List Value} {r : aR} (h : ab_stl i pc L S = some r) : ∃ x R, S = .long x :: R ∧ i + 1 < L.length ∧ r = .inl ((pc, ((ab_cut L i).set i (some (.long x))).set (i + 1) none, R), none) := by
  unfold ab_stl at h
  split at h
  · obtain ⟨h1, h2⟩ := ab_st2_i h
    exact ⟨_, _, rfl, h1, h2⟩
  · cases h
theorem ab_sta_i {i pc : Nat} {L : aL} {S : List Value} {r : aR} (h : ab_sta i pc L S = some r) : ∃ x R, S = .ref x :: R ∧ i < L.length ∧ r = .inl ((pc, (ab_cut L i).set i (some (.ref x)), R), none) := by
  unfold ab_sta at h
  split at h
  · obtain ⟨h1, h2⟩ := ab_st1_i h
    exact ⟨_, _, rfl, h1, h2⟩
  · cases h
theorem ab_inc_i {i : Nat} {n : Int} {pc : Nat} {L : aL} {S : List Value} {r : aR} (h : ab_inc i n pc L S = some r) : ∃ x, L[i]? = some (some (.int x)) ∧ i < L.length ∧ r = .inl ((pc, (ab_cut L i).set i (some (.int (x + ab_k n))), S), none) := by
  unfold ab_inc at h
  split at h
  · next x hx =>
    obtain ⟨h1, h2⟩ := ab_st1_i h
    exact ⟨x, hx, h1, h2⟩
  · cases h
theorem ab_dup_i {pc : Nat} {L : aL} {S : List Value} {r : aR} (h : ab_dup pc L S = some r) : ∃ v R, S = v :: R ∧ ab_cat v = 1 ∧ r = .inl ((pc, L, v :: v :: R), none) := by
  unfold ab_dup at h
  split at h
  · split at h
    · next hc => exact ⟨_, _, rfl, hc, (Option.some.inj h).symm⟩
    · cases h
  · cases h
theorem ab_pop_i {pc : Nat} {L : aL} {S : List Value} {r : aR} (h : ab_pop pc L S = some r) : ∃ v R, S = v :: R ∧ ab_cat v = 1 ∧ r = .inl ((pc, L, R), none) := by
  unfold ab_pop at h
  split at h
  · split at h
    · next hc => exact ⟨_, _, rfl, hc, (Option.some.inj h).symm⟩
    · cases h
  · cases h
theorem ab_dup2_i {pc : Nat} {L : aL} {S : List Value} {r : aR} (h : ab_dup2 pc L S = some r) : ∃ y a R, S = .int y :: .ref a :: R ∧ r = .inl ((pc, L, .int y :: .ref a :: .int y :: .ref a :: R), none) := by
  unfold ab_dup2 at h
  split at h
  · exact ⟨_, _, _, rfl, (Option.some.inj h).symm⟩
  · cases h
theorem ab_br_i {c : ClassFile.Cond} {t pc : Nat} {L : aL} {S : List Value} {r : aR} (h : ab_br c t pc L S = some r) : ∃ x y R, S = .int y :: .int x :: R ∧ r = .inl (((bif ab_cd c x y then t else pc), L, R), none) := by
  unfold ab_br at h
  split at h
  · next y x R =>
    refine ⟨x, y, R, rfl, ?_⟩
    cases hc : ab_cd c x y <;> rw [hc] at h <;> exact (Option.some.inj h).symm
  · cases h
theorem ab_bz_i {c : ClassFile.Cond} {t pc : Nat} {L : aL} {S : List Value} {r : aR} (h : ab_bz c t pc L S = some r) : ∃ x R, S = .int x :: R ∧ r = .inl (((bif ab_cd c x 0 then t else pc), L, R), none) := by
  unfold ab_bz at h
  split at h
  · next x R =>
    refine ⟨x, R, rfl, ?_⟩
    cases hc : ab_cd c x 0 <;> rw [hc] at h <;> exact (Option.some.inj h).symm
  · cases h
theorem ab_tsw_i {lo hi : Int} {ts : List Nat} {L : aL} {S : List Value} {r : aR} (h : ab_tsw lo hi ts L S = some r) : ∃ x R t, S = .int x :: R ∧ r = .inl ((t, L, R), none) ∧ (((x.toInt < lo ∨ hi < x.toInt) ∧ ts[0]? = some t) ∨ (¬ (x.toInt < lo ∨ hi < x.toInt) ∧ ts[(x.toInt - lo).toNat + 1]? = some t)) := by
  unfold ab_tsw at h
  split at h
  · next x R =>
    split at h
    · next hx =>
      split at h
      · next t ht => exact ⟨x, R, t, rfl, (Option.some.inj h).symm, Or.inl ⟨hx, ht⟩⟩
      · cases h
    · next hx =>
      split at h
      · next t ht => exact ⟨x, R, t, rfl, (Option.some.inj h).symm, Or.inr ⟨hx, ht⟩⟩
      · cases h
  · cases h
theorem ab_lsw_i {ts : List Nat} {L : aL} {S : List Value} {r : aR} (h : ab_lsw ts L S = some r) : ∃ x R d t0 t1, S = .int x :: R ∧ ts = [d, t0, t1] ∧ r = .inl (((if x = 0 then t0 else if x = 1 then t1 else d), L, R), none) := by
  unfold ab_lsw at h
  split at h
  · next x R d t0 t1 =>
    refine ⟨x, R, d, t0, t1, rfl, rfl, ?_⟩
    by_cases h0 : x = 0
    · rw [if_pos h0] at h; rw [if_pos h0]; exact (Option.some.inj h).symm
    · rw [if_neg h0] at h; rw [if_neg h0]
      by_cases h1 : x = 1
      · rw [if_pos h1] at h; rw [if_pos h1]; exact (Option.some.inj h).symm
      · rw [if_neg h1] at h; rw [if_neg h1]; exact (Option.some.inj h).symm
  · cases h
theorem ab_bif {α : Type} {b : Bool} {x : Option α} {r : α} (h : (bif b then x else none) = some r) : b = true ∧ x = some r := by
  cases b
  · cases h
  · exact ⟨rfl, h⟩
theorem ab_in_of {i : Int32} {n : Nat} (h : ab_in i n = true) : vp_in i n := by
  simp only [ab_in, Bool.and_eq_true, Bool.not_eq_true', decide_eq_false_iff_not] at h
  have h2 : i.toNatClampNeg < n := Nat.lt_of_succ_le (Nat.le_of_ble_eq_true h.2)
  rintro (q | q)
  · exact h.1 q
  · omega
theorem ab_fld_i {ci k pc : Nat} {L : aL} {S : List Value} {h : aH} {r : aR} (hs : ab_fld ci k pc L S h = some r) : (∃ a R fs v, S = .ref a :: R ∧ h[a]? = some (.inr (ci, fs)) ∧ fs[k]? = some v ∧ r = .inl ((pc, L, v :: R), none)) ∨ (∃ (a : Nat) (R : List Value), S = .ref a :: R ∧ ci = 90 ∧ 900 ≤ a ∧ a < 909 ∧ ((k = 0 ∧ r = .inl ((pc, L, .ref (a + 20) :: R), none)) ∨ (k = 1 ∧ r = .inl ((pc, L, .int 0 :: R), none)))) := by
  unfold ab_fld at hs
  split at hs
  · next a R =>
    split at hs
    · next c fs hc =>
      split at hs
      · next e0 =>
        subst e0
        split at hs
        · next v hv => exact Or.inl ⟨a, R, fs, v, rfl, hc, hv, (Option.some.inj hs).symm⟩
        · cases hs
      · cases hs
    · cases hs
    · split at hs
      · next e0 =>
        split at hs
        · cases hs
        · next h9 =>
          split at hs
          · next h8 =>
            refine Or.inr ⟨a, R, rfl, e0, Nat.le_of_not_lt h9, h8, ?_⟩
            split at hs
            · exact Or.inl ⟨rfl, (Option.some.inj hs).symm⟩
            · exact Or.inr ⟨rfl, (Option.some.inj hs).symm⟩
            · cases hs
          · cases hs
      · cases hs
  · cases hs
theorem ab_put_i {ci k pc : Nat} {ty : FieldType} {L : aL} {S : List Value} {h : aH} {r : aR} (hs : ab_put ci k pc ty L S h = some r) : ∃ v a R fs, S = v :: .ref a :: R ∧ h[a]? = some (.inr (ci, fs)) ∧ k < fs.length ∧ ab_fit ty v = true ∧ r = .inl ((pc, L, R), some (a, .inr (ci, fs.set k v))) := by
  unfold ab_put at hs
  split at hs
  · next v a R =>
    split at hs
    · next c fs hc =>
      split at hs
      · next e0 =>
        subst e0
        split at hs
        · next hk =>
          split at hs
          · next hf => exact ⟨v, a, R, fs, rfl, hc, hk, hf, (Option.some.inj hs).symm⟩
          · cases hs
        · cases hs
      · cases hs
    · cases hs
  · cases hs
theorem ab_ial_i {pc : Nat} {L : aL} {S : List Value} {h : aH} {r : aR} (hs : ab_ial pc L S h = some r) : ∃ i a R n f, S = .int i :: .ref a :: R ∧ h[a]? = some (.inl (1, n, .inl f)) ∧ vp_in i n ∧ r = .inl ((pc, L, .int (f i.toNatClampNeg) :: R), none) := by
  unfold ab_ial at hs
  split at hs
  · next i a R =>
    split at hs
    · next n f hc =>
      obtain ⟨h1, h2⟩ := ab_bif hs
      exact ⟨i, a, R, n, f, rfl, hc, ab_in_of h1, (Option.some.inj h2).symm⟩
    · cases hs
  · cases hs
theorem ab_bal_i {pc : Nat} {L : aL} {S : List Value} {h : aH} {r : aR} (hs : ab_bal pc L S h = some r) : (∃ i a R n f, S = .int i :: .ref a :: R ∧ (h[a]? = some (.inl (0, n, .inl f)) ∨ h[a]? = some (.inl (3, n, .inl f))) ∧ vp_in i n ∧ r = .inl ((pc, L, .int (f i.toNatClampNeg) :: R), none)) ∨ (∃ (i : Int32) (a : Nat) (R : List Value), S = .int i :: .ref a :: R ∧ 920 ≤ a ∧ a < 929 ∧ vp_in i (ab_str.getD (a - 920) []).length ∧ r = .inl ((pc, L, .int ((ab_str.getD (a - 920) []).getD i.toNatClampNeg 0) :: R), none)) := by
  unfold ab_bal at hs
  split at hs
  · next i a R =>
    split at hs
    · next n f hc =>
      obtain ⟨h1, h2⟩ := ab_bif hs
      exact Or.inl ⟨i, a, R, n, f, rfl, Or.inl hc, ab_in_of h1, (Option.some.inj h2).symm⟩
    · next n f hc =>
      obtain ⟨h1, h2⟩ := ab_bif hs
      exact Or.inl ⟨i, a, R, n, f, rfl, Or.inr hc, ab_in_of h1, (Option.some.inj h2).symm⟩
    · cases hs
    · split at hs
      · cases hs
      · next h9 =>
        split at hs
        · next h8 =>
          obtain ⟨h1, h2⟩ := ab_bif hs
          exact Or.inr ⟨i, a, R, rfl, Nat.le_of_not_lt h9, h8, ab_in_of h1, (Option.some.inj h2).symm⟩
        · cases hs
  · cases hs
theorem ab_lal_i {pc : Nat} {L : aL} {S : List Value} {h : aH} {r : aR} (hs : ab_lal pc L S h = some r) : (∃ i a R n f, S = .int i :: .ref a :: R ∧ h[a]? = some (.inl (2, n, .inr (.inl f))) ∧ vp_in i n ∧ r = .inl ((pc, L, .long (f i.toNatClampNeg) :: R), none)) ∨ (∃ i R, S = .int i :: .ref 950 :: R ∧ vp_in i 6 ∧ r = .inl ((pc, L, .long (ab_low.getD i.toNatClampNeg 0) :: R), none)) := by
  unfold ab_lal at hs
  split at hs
  · next i a R =>
    split at hs
    · next n f hc =>
      obtain ⟨h1, h2⟩ := ab_bif hs
      exact Or.inl ⟨i, a, R, n, f, rfl, hc, ab_in_of h1, (Option.some.inj h2).symm⟩
    · cases hs
    · split at hs
      · next h9 =>
        subst h9
        obtain ⟨h1, h2⟩ := ab_bif hs
        exact Or.inr ⟨i, R, rfl, ab_in_of h1, (Option.some.inj h2).symm⟩
      · cases hs
  · cases hs
theorem ab_aal_i {pc : Nat} {L : aL} {S : List Value} {h : aH} {r : aR} (hs : ab_aal pc L S h = some r) : ∃ i a R t n f q, S = .int i :: .ref a :: R ∧ (t = 4 ∨ t = 5) ∧ h[a]? = some (.inl (t, n, .inr (.inr (.inr (.inr f))))) ∧ vp_in i n ∧ f i.toNatClampNeg = some q ∧ r = .inl ((pc, L, .ref q :: R), none) := by
  unfold ab_aal at hs
  split at hs
  · next i a R =>
    split at hs
    · next n f hc =>
      obtain ⟨h1, h2⟩ := ab_bif hs
      split at h2
      · next q hq => exact ⟨i, a, R, 4, n, f, q, rfl, Or.inl rfl, hc, ab_in_of h1, hq, (Option.some.inj h2).symm⟩
      · cases h2
    · next n f hc =>
      obtain ⟨h1, h2⟩ := ab_bif hs
      split at h2
      · next q hq => exact ⟨i, a, R, 5, n, f, q, rfl, Or.inr rfl, hc, ab_in_of h1, hq, (Option.some.inj h2).symm⟩
      · cases h2
    · cases hs
  · cases hs
theorem ab_ias_i {pc : Nat} {L : aL} {S : List Value} {h : aH} {r : aR} (hs : ab_ias pc L S h = some r) : ∃ x i a R n f, S = .int x :: .int i :: .ref a :: R ∧ h[a]? = some (.inl (1, n, .inl f)) ∧ vp_in i n ∧ r = .inl ((pc, L, R), some (a, .inl (1, n, .inl (upd f i.toNatClampNeg x)))) := by
  unfold ab_ias at hs
  split at hs
  · next x i a R =>
    split at hs
    · next n f hc =>
      obtain ⟨h1, h2⟩ := ab_bif hs
      exact ⟨x, i, a, R, n, f, rfl, hc, ab_in_of h1, (Option.some.inj h2).symm⟩
    · cases hs
  · cases hs
theorem ab_bas_i {pc : Nat} {L : aL} {S : List Value} {h : aH} {r : aR} (hs : ab_bas pc L S h = some r) : ∃ x i a R n f, S = .int x :: .int i :: .ref a :: R ∧ vp_in i n ∧ ((h[a]? = some (.inl (0, n, .inl f)) ∧ r = .inl ((pc, L, R), some (a, .inl (0, n, .inl (upd f i.toNatClampNeg (vp_nar .byte x)))))) ∨ (h[a]? = some (.inl (3, n, .inl f)) ∧ r = .inl ((pc, L, R), some (a, .inl (3, n, .inl (upd f i.toNatClampNeg (vp_nar .boolean x))))))) := by
  unfold ab_bas at hs
  split at hs
  · next x i a R =>
    split at hs
    · next n f hc =>
      obtain ⟨h1, h2⟩ := ab_bif hs
      exact ⟨x, i, a, R, n, f, rfl, ab_in_of h1, Or.inl ⟨hc, (Option.some.inj h2).symm⟩⟩
    · next n f hc =>
      obtain ⟨h1, h2⟩ := ab_bif hs
      exact ⟨x, i, a, R, n, f, rfl, ab_in_of h1, Or.inr ⟨hc, (Option.some.inj h2).symm⟩⟩
    · cases hs
  · cases hs
theorem ab_las_i {pc : Nat} {L : aL} {S : List Value} {h : aH} {r : aR} (hs : ab_las pc L S h = some r) : ∃ x i a R n f, S = .long x :: .int i :: .ref a :: R ∧ h[a]? = some (.inl (2, n, .inr (.inl f))) ∧ vp_in i n ∧ r = .inl ((pc, L, R), some (a, .inl (2, n, .inr (.inl (vp_updL f i.toNatClampNeg x))))) := by
  unfold ab_las at hs
  split at hs
  · next x i a R =>
    split at hs
    · next n f hc =>
      obtain ⟨h1, h2⟩ := ab_bif hs
      exact ⟨x, i, a, R, n, f, rfl, hc, ab_in_of h1, (Option.some.inj h2).symm⟩
    · cases hs
  · cases hs
theorem ab_aas_i {pc : Nat} {L : aL} {S : List Value} {h : aH} {r : aR} (hs : ab_aas pc L S h = some r) : ∃ v i a R t n f ci fs, S = .ref v :: .int i :: .ref a :: R ∧ h[a]? = some (.inl (t, n, .inr (.inr (.inr (.inr f))))) ∧ h[v]? = some (.inr (ci, fs)) ∧ ((t = 4 ∧ ci = 0) ∨ (t = 5 ∧ ci = 5)) ∧ vp_in i n ∧ r = .inl ((pc, L, R), some (a, .inl (t, n, .inr (.inr (.inr (.inr (va_up f i.toNatClampNeg (some v)))))))) := by
  unfold ab_aas at hs
  split at hs
  · next v i a R =>
    split at hs
    · next t n f ci fs hc hv =>
      obtain ⟨h1, h2⟩ := ab_bif hs
      simp only [Bool.and_eq_true] at h1
      have h3 := h1.1
      simp only [ab_of, Bool.or_eq_true, Bool.and_eq_true] at h3
      refine ⟨v, i, a, R, t, n, f, ci, fs, rfl, hc, hv, ?_, ab_in_of h1.2, (Option.some.inj h2).symm⟩
      rcases h3 with h3 | h3
      · exact Or.inl ⟨Nat.eq_of_beq_eq_true h3.1, Nat.eq_of_beq_eq_true h3.2⟩
      · exact Or.inr ⟨Nat.eq_of_beq_eq_true h3.1, Nat.eq_of_beq_eq_true h3.2⟩
    · cases hs
  · cases hs
theorem ab_len_i {pc : Nat} {L : aL} {S : List Value} {h : aH} {r : aR} (hs : ab_len pc L S h = some r) : (∃ a R t x, S = .ref a :: R ∧ t < 6 ∧ h[a]? = some (.inl (t, x)) ∧ r = .inl ((pc, L, .int (Int32.ofNat x.1) :: R), none)) ∨ (∃ R, S = .ref 950 :: R ∧ r = .inl ((pc, L, .int 6 :: R), none)) ∨ (∃ (a : Nat) (R : List Value), S = .ref a :: R ∧ 920 ≤ a ∧ a < 929 ∧ r = .inl ((pc, L, .int (Int32.ofNat (ab_str.getD (a - 920) []).length) :: R), none)) := by
  unfold ab_len at hs
  split at hs
  · next a R =>
    split at hs
    · next t n x hc =>
      split at hs
      · next ht => exact Or.inl ⟨a, R, t, (n, x), rfl, ht, hc, (Option.some.inj hs).symm⟩
      · cases hs
    · cases hs
    · split at hs
      · next h9 => subst h9; exact Or.inr (Or.inl ⟨R, rfl, (Option.some.inj hs).symm⟩)
      · split at hs
        · cases hs
        · next h9 =>
          split at hs
          · next h8 => exact Or.inr (Or.inr ⟨a, R, rfl, Nat.le_of_not_lt h9, h8, (Option.some.inj hs).symm⟩)
          · cases hs
  · cases hs
theorem ab_mk_i {x : va_E} {pc : Nat} {L : aL} {R : List Value} {h : aH} {r : aR} (hs : ab_mk x pc L R h = some r) : h.length < 900 ∧ ab_outL h.length L = true ∧ R.all (ab_out h.length) = true ∧ h.all (ab_outE h.length) = true ∧ r = .inr (.inl ((pc, L, R), x)) := by
  unfold ab_mk at hs
  obtain ⟨h1, h2⟩ := ab_bif hs
  simp only [Bool.and_eq_true] at h1
  exact ⟨Nat.lt_of_succ_le (Nat.le_of_ble_eq_true h1.1.1.1), h1.1.1.2, h1.1.2, h1.2, (Option.some.inj h2).symm⟩
theorem ab_newa_i {t pc : Nat} {L : aL} {S : List Value} {h : aH} {r : aR} (hs : ab_newa t pc L S h = some r) : ∃ n R x, S = .int n :: R ∧ ¬ n < 0 ∧ n.toNatClampNeg ≤ 4000 ∧ ab_mk x pc L R h = some r ∧ ((t = 0 ∧ x = .inl (0, n.toNatClampNeg, .inl (fun _ => 0))) ∨ (t = 1 ∧ x = .inl (1, n.toNatClampNeg, .inl (fun _ => 0))) ∨ (t = 2 ∧ x = .inl (2, n.toNatClampNeg, .inr (.inl (fun _ => 0)))) ∨ (t = 3 ∧ x = .inl (3, n.toNatClampNeg, .inl (fun _ => 0)))) := by
  unfold ab_newa at hs
  split at hs
  · next n R =>
    split at hs
    · cases hs
    · next hn =>
      split at hs
      · next h4 =>
        split at hs
        · exact ⟨n, R, _, rfl, hn, h4, hs, Or.inl ⟨rfl, rfl⟩⟩
        · exact ⟨n, R, _, rfl, hn, h4, hs, Or.inr (Or.inl ⟨rfl, rfl⟩)⟩
        · exact ⟨n, R, _, rfl, hn, h4, hs, Or.inr (Or.inr (Or.inl ⟨rfl, rfl⟩))⟩
        · exact ⟨n, R, _, rfl, hn, h4, hs, Or.inr (Or.inr (Or.inr ⟨rfl, rfl⟩))⟩
        · cases hs
      · cases hs
  · cases hs
theorem ab_anew_i {t pc : Nat} {L : aL} {S : List Value} {h : aH} {r : aR} (hs : ab_anew t pc L S h = some r) : ∃ n R, S = .int n :: R ∧ ¬ n < 0 ∧ n.toNatClampNeg ≤ 4000 ∧ ab_mk (.inl (t, n.toNatClampNeg, .inr (.inr (.inr (.inr (fun _ => none)))))) pc L R h = some r := by
  unfold ab_anew at hs
  split at hs
  · next n R =>
    split at hs
    · cases hs
    · next hn =>
      split at hs
      · next h4 => exact ⟨n, R, rfl, hn, h4, hs⟩
      · cases hs
  · cases hs
theorem ab_inv_i {n ci j pc : Nat} {L : aL} {S : List Value} {h : aH} {r : aR} (hs : ab_inv n ci j pc L S h = some r) : ∃ (b : Nat) (R : List Value), n ≤ S.length ∧ S.drop n = .ref b :: R ∧ ab_room R = true ∧ ((∃ fs, h[b]? = some (.inr (ci, fs))) ∨ (ci = 90 ∧ 900 ≤ b ∧ b < 909)) ∧ r = .inr (.inr (.inr ((pc, L, R), j, .ref b :: (S.take n).reverse))) := by
  unfold ab_inv at hs
  obtain ⟨h1, hs1⟩ := ab_bif hs
  clear hs
  have h1 := Nat.le_of_ble_eq_true h1
  split at hs1
  · next b R hd =>
    obtain ⟨h2, hs2⟩ := ab_bif hs1
    clear hs1
    split at hs2
    · next c fs hc =>
      split at hs2
      · next e0 => subst e0; exact ⟨b, R, h1, hd, h2, Or.inl ⟨fs, hc⟩, (Option.some.inj hs2).symm⟩
      · cases hs2
    · cases hs2
    · split at hs2
      · next e0 =>
        split at hs2
        · cases hs2
        · next h9 =>
          split at hs2
          · next h8 => exact ⟨b, R, h1, hd, h2, Or.inr ⟨e0, Nat.le_of_not_lt h9, h8⟩, (Option.some.inj hs2).symm⟩
          · cases hs2
      · cases hs2
  · cases hs1
theorem ab_ins_i {n j pc : Nat} {L : aL} {S : List Value} {r : aR} (hs : ab_ins n j pc L S = some r) : n ≤ S.length ∧ ab_room (S.drop n) = true ∧ r = .inr (.inr (.inr ((pc, L, S.drop n), j, (S.take n).reverse))) := by
  unfold ab_ins at hs
  obtain ⟨h1, hs⟩ := ab_bif hs
  simp only [Bool.and_eq_true] at h1
  exact ⟨Nat.le_of_ble_eq_true h1.1, h1.2, (Option.some.inj hs).symm⟩
theorem ab_inz_i {n j pc : Nat} {L : aL} {S : List Value} {r : aR} (hs : ab_inz n j pc L S = some r) : ∃ b R, n ≤ S.length ∧ S.drop n = .ref b :: R ∧ ab_room R = true ∧ r = .inr (.inr (.inr ((pc, L, R), j, .ref b :: (S.take n).reverse))) := by
  unfold ab_inz at hs
  obtain ⟨h1, hs⟩ := ab_bif hs
  have h1 := Nat.le_of_ble_eq_true h1
  split at hs
  · next b R hd =>
    obtain ⟨h2, hs⟩ := ab_bif hs
    exact ⟨b, R, h1, hd, h2, (Option.some.inj hs).symm⟩
  · cases hs
theorem ab_obj_i {pc : Nat} {L : aL} {S : List Value} {r : aR} (hs : ab_obj pc L S = some r) : ∃ b R, S = .ref b :: R ∧ ab_room R = true ∧ r = .inl ((pc, L, R), none) := by
  unfold ab_obj at hs
  split at hs
  · obtain ⟨h2, hs⟩ := ab_bif hs
    exact ⟨_, _, rfl, h2, (Option.some.inj hs).symm⟩
  · cases hs
theorem ab_chk_i {pc : Nat} {L : aL} {S : List Value} {r : aR} (hs : ab_chk pc L S = some r) : ∃ n i R, S = .int n :: .int i :: R ∧ ab_room R = true ∧ ¬ i < 0 ∧ i < n ∧ r = .inl ((pc, L, R), none) := by
  unfold ab_chk at hs
  split at hs
  · obtain ⟨h2, hs⟩ := ab_bif hs
    simp only [Bool.and_eq_true, Bool.not_eq_true', decide_eq_false_iff_not, decide_eq_true_eq] at h2
    exact ⟨_, _, _, rfl, h2.1.1, h2.1.2, h2.2, (Option.some.inj hs).symm⟩
  · cases hs
theorem ab_reti_i {rt : Option FieldType} {S : List Value} {r : aR} (hs : ab_reti rt S = some r) : ∃ ty x, rt = some ty ∧ S = [.int x] ∧ narrow ty (.int x) = .int x ∧ r = .inr (.inr (.inl (some (.int x)))) := by
  unfold ab_reti at hs
  split at hs
  · exact ⟨_, _, rfl, rfl, rfl, (Option.some.inj hs).symm⟩
  · split at hs
    · next hn => exact ⟨_, _, rfl, rfl, hn, (Option.some.inj hs).symm⟩
    · cases hs
  · split at hs
    · next hn => exact ⟨_, _, rfl, rfl, hn, (Option.some.inj hs).symm⟩
    · cases hs
  · split at hs
    · next hn => exact ⟨_, _, rfl, rfl, hn, (Option.some.inj hs).symm⟩
    · cases hs
  · cases hs
theorem ab_retl_i {rt : Option FieldType} {S : List Value} {r : aR} (hs : ab_retl rt S = some r) : ∃ x, rt = some .long ∧ S = [.long x] ∧ r = .inr (.inr (.inl (some (.long x)))) := by
  unfold ab_retl at hs
  split at hs
  · exact ⟨_, rfl, rfl, (Option.some.inj hs).symm⟩
  · cases hs
theorem ab_retv_i {rt : Option FieldType} {S : List Value} {r : aR} (hs : ab_retv rt S = some r) : rt = none ∧ S = [] ∧ r = .inr (.inr (.inl none)) := by
  unfold ab_retv at hs
  split at hs
  · exact ⟨rfl, rfl, (Option.some.inj hs).symm⟩
  · cases hs
