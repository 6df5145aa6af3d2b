/-! the run of the small machine is a contract of the machine -/
/-- what a step keeps -/
def ab_Sh (L : aL) (h : aH) (r : aR) : Prop := match r with
  | .inl (f, none) => f.2.1.length = L.length
  | .inl (f, some (a, x)) => f.2.1 = L ∧ ∃ y, h[a]? = some y ∧ ab_sz y = ab_sz x
  | .inr (.inl (f, _)) => f.2.1 = L ∧ h.length < 900
  | .inr (.inr (.inl _)) => True
  | .inr (.inr (.inr (f, _, _))) => f.2.1 = L
set_option maxHeartbeats 4000000 in
theorem ab_shape {nf : Nat → Nat × Nat × Nat} {rt : Option FieldType} {en : aE} {pc : Nat} {L : aL} {S : List Value} {h : aH} {r : aR} (hst : ab_stp nf rt en pc L S h = some r) : ab_Sh L h r := by
  obtain ⟨ins, ln, rs⟩ := en
  cases ins
  case putfield i =>
    simp only [ab_stp] at hst
    split at hst
    · obtain ⟨v, a, R', fs, rfl, h1, h2, h3, rfl⟩ := ab_put_i hst
      exact ⟨rfl, _, h1, by simp [ab_sz]⟩
    · cases hst
  case iastore =>
    obtain ⟨x, i, a, R', n, f, rfl, h1, h2, rfl⟩ := ab_ias_i hst
    exact ⟨rfl, _, h1, rfl⟩
  case bastore =>
    obtain ⟨x, i, a, R', n, f, rfl, h2, h3⟩ := ab_bas_i hst
    rcases h3 with ⟨h1, rfl⟩ | ⟨h1, rfl⟩ <;> exact ⟨rfl, _, h1, rfl⟩
  case lastore =>
    obtain ⟨x, i, a, R', n, f, rfl, h1, h2, rfl⟩ := ab_las_i hst
    exact ⟨rfl, _, h1, rfl⟩
  case aastore =>
    obtain ⟨v, i, a, R', t, n, f, ci, fs, rfl, h1, hv, ht, h2, rfl⟩ := ab_aas_i hst
    exact ⟨rfl, _, h1, rfl⟩
  case newarray =>
    simp only [ab_stp] at hst
    split at hst
    · obtain ⟨n, R', x, rfl, hn, h4, hmk, hx4⟩ := ab_newa_i hst
      obtain ⟨h9, o1, o2, o3, rfl⟩ := ab_mk_i hmk
      exact ⟨rfl, h9⟩
    · cases hst
  case anewarray =>
    simp only [ab_stp] at hst
    split at hst
    · obtain ⟨n, R', rfl, hn, h4, hmk⟩ := ab_anew_i hst
      obtain ⟨h9, o1, o2, o3, rfl⟩ := ab_mk_i hmk
      exact ⟨rfl, h9⟩
    · cases hst
  case new =>
    simp only [ab_stp] at hst
    split at hst
    · obtain ⟨h9, o1, o2, o3, rfl⟩ := ab_mk_i hst
      exact ⟨rfl, h9⟩
    · cases hst
  case invokevirtual =>
    simp only [ab_stp] at hst
    split at hst
    · obtain ⟨b, R', g1, g2, g3, g4, rfl⟩ := ab_inv_i hst
      exact rfl
    · cases hst
  case invokestatic =>
    simp only [ab_stp] at hst
    split at hst
    · obtain ⟨n, i1, R', rfl, h1, h2, h3, rfl⟩ := ab_chk_i hst
      exact rfl
    · obtain ⟨g1, g3, rfl⟩ := ab_ins_i hst
      exact rfl
    · cases hst
  case invokespecial =>
    simp only [ab_stp] at hst
    split at hst
    · obtain ⟨b, R', rfl, h1, rfl⟩ := ab_obj_i hst
      exact rfl
    · obtain ⟨b, R', g1, g2, g3, rfl⟩ := ab_inz_i hst
      exact rfl
    · cases hst
  case ireturn =>
    obtain ⟨ty, x, h1, rfl, h2, rfl⟩ := ab_reti_i hst
    trivial
  case lreturn =>
    obtain ⟨x, h1, rfl, rfl⟩ := ab_retl_i hst
    trivial
  case return_ =>
    obtain ⟨h1, rfl, rfl⟩ := ab_retv_i hst
    trivial
  case getfield =>
    simp only [ab_stp] at hst
    split at hst
    · rcases ab_fld_i hst with ⟨a, R', fs, v, rfl, h1, h2, rfl⟩ | ⟨a, R', rfl, rfl, h1, h2, ⟨rfl, rfl⟩ | ⟨rfl, rfl⟩⟩ <;> exact rfl
    · cases hst
  case iaload =>
    obtain ⟨i, a, R', n, f, rfl, h1, h2, rfl⟩ := ab_ial_i hst
    exact rfl
  case baload =>
    rcases ab_bal_i hst with ⟨i, a, R', n, f, rfl, h1, h2, rfl⟩ | ⟨i, a, R', rfl, h1, h2, h3, rfl⟩ <;> exact rfl
  case laload =>
    rcases ab_lal_i hst with ⟨i, a, R', n, f, rfl, h1, h2, rfl⟩ | ⟨i, R', rfl, h2, rfl⟩ <;> exact rfl
  case aaload =>
    obtain ⟨i, a, R', t, n, f, q, rfl, ht, h1, h2, h3, rfl⟩ := ab_aal_i hst
    exact rfl
  case arraylength =>
    rcases ab_len_i hst with ⟨a, R', t, x, rfl, ht, h1, rfl⟩ | ⟨R', rfl, rfl⟩ | ⟨a, R', rfl, h1, h2, rfl⟩ <;> exact rfl
  case tableswitch =>
    obtain ⟨x, R', t1, rfl, rfl, h1⟩ := ab_tsw_i hst
    exact rfl
  case lookupswitch =>
    obtain ⟨x, R', d', u0, u1, rfl, e0, rfl⟩ := ab_lsw_i hst
    exact rfl
  case iinc =>
    obtain ⟨x, h0, h1, rfl⟩ := ab_inc_i hst
    simp [ab_Sh, ab_cut_len]
  all_goals first
    | (cases hst; done)
    | (obtain ⟨x, y, R', rfl, rfl⟩ := ab_ii_i hst; exact rfl)
    | (obtain ⟨x, y, R', rfl, h0, rfl⟩ := ab_dv_i hst; exact rfl)
    | (obtain ⟨x, y, R', rfl, rfl⟩ := ab_ll_i hst; exact rfl)
    | (obtain ⟨x, y, R', rfl, rfl⟩ := ab_li_i hst; exact rfl)
    | (obtain ⟨x, R', rfl, rfl⟩ := ab_i1_i hst; exact rfl)
    | (obtain ⟨x, R', rfl, rfl⟩ := ab_l1_i hst; exact rfl)
    | (obtain ⟨x, h1, rfl⟩ := ab_ldi_i hst; exact rfl)
    | (obtain ⟨x, h1, rfl⟩ := ab_ldl_i hst; exact rfl)
    | (obtain ⟨x, h1, rfl⟩ := ab_lda_i hst; exact rfl)
    | (obtain ⟨x, R', rfl, h1, rfl⟩ := ab_sti_i hst; simp [ab_Sh, ab_cut_len]; done)
    | (obtain ⟨x, R', rfl, h1, rfl⟩ := ab_stl_i hst; simp [ab_Sh, ab_cut_len]; done)
    | (obtain ⟨x, R', rfl, h1, rfl⟩ := ab_sta_i hst; simp [ab_Sh, ab_cut_len]; done)
    | (obtain ⟨v, R', rfl, h0, rfl⟩ := ab_dup_i hst; exact rfl)
    | (obtain ⟨v, R', rfl, h0, rfl⟩ := ab_pop_i hst; exact rfl)
    | (obtain ⟨y, a, R', rfl, rfl⟩ := ab_dup2_i hst; exact rfl)
    | (cases hst; exact rfl)
    | (simp only [ab_stp] at hst; split at hst <;> first | (cases hst; done) | (cases hst; exact rfl) | (obtain ⟨x, y, R', rfl, rfl⟩ := ab_br_i hst; exact rfl) | (obtain ⟨x, R', rfl, rfl⟩ := ab_bz_i hst; exact rfl))
theorem ab_hs_set {h : aH} {a : Nat} {x y : va_E} (hy : h[a]? = some y) (hs : ab_sz y = ab_sz x) : ab_hs (h.set a x) = ab_hs h := by
  unfold ab_hs
  rw [List.map_set]
  congr 1
  apply List.ext_getElem?
  intro i
  by_cases hi : a = i
  · subst hi
    have hl := (List.getElem?_eq_some_iff.mp hy).1
    rw [List.getElem?_set_self (by simpa using hl), List.getElem?_map, hy, Option.map_some, hs]
  · rw [List.getElem?_set_ne hi]
theorem ab_hs_push (h : aH) (x : va_E) : ab_hs (h ++ [x]) = ab_hs h + ab_sz x := by simp [ab_hs]
/-- the cells only grow -/
theorem ab_mono {nf : Nat → Nat × Nat × Nat} {mt : Nat → Option FieldType × List (List (Option aE))} : ∀ (n d mi pc : Nat) (L : aL) (S : List Value) (h : aH) (v : Option Value) (h' : aH), ab_rn nf mt n d mi pc L S h = some (v, h') → h.length ≤ h'.length ∧ ab_hs h ≤ ab_hs h'
  | 0, _, _, _, _, _, _, _, _, hr => by cases hr
  | n + 1, d, mi, pc, L, S, h, v, h', hr => by
    unfold ab_rn at hr
    split at hr
    · cases hr
    · next en hlk =>
      split at hr
      · cases hr
      · next pc' L' S' w hst =>
        have ih := ab_mono n d mi pc' L' S' _ v h' hr
        have hsh := ab_shape hst
        match w, hsh, ih with
        | none, hsh, ih => exact ih
        | some (a, x), hsh, ih =>
          obtain ⟨-, y, hy, hs⟩ := hsh
          have ih : (h.set a x).length ≤ h'.length ∧ ab_hs (h.set a x) ≤ ab_hs h' := ih
          rw [List.length_set, ab_hs_set hy hs] at ih
          exact ih
      · next pc' L' S' x hst =>
        have ih := ab_mono n d mi pc' L' _ _ v h' hr
        rw [List.length_append, List.length_singleton, ab_hs_push] at ih
        exact ⟨by omega, by omega⟩
      · cases hr
        exact ⟨Nat.le_refl _, Nat.le_refl _⟩
      · next pc' L' S' j As hst =>
        split at hr
        · cases hr
        · next d' =>
          obtain ⟨-, hr1⟩ := ab_bif hr
          split at hr1
          · cases hr1
          · next v1 h1 hc =>
            obtain ⟨-, hr2⟩ := ab_bif hr1
            have i1 := ab_mono n d' j 0 _ _ h v1 h1 hc
            have i2 := ab_mono n (d' + 1) mi pc' L' _ h1 v h' hr2
            exact ⟨Nat.le_trans i1.1 i2.1, Nat.le_trans i1.2 i2.2⟩
