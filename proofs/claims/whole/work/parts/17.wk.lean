theorem ab_rl_le {L L' : aL} {r : aR} {o : Option aR} (hL : ab_le L L') (ho : o = (some r).map (ab_rl L')) (hr : ab_leR r (ab_rl L' r)) : ∃ r', o = some r' ∧ ab_leR r r' := ⟨_, ho, hr⟩
set_option maxHeartbeats 4000000 in
theorem ab_wk1 {nf : Nat → Nat × Nat × Nat} {rt : Option FieldType} {en : aE} {pc : Nat} {L L' : aL} {S : List Value} {h : aH} {r : aR} (hL : ab_le L L') (hst : ab_stp nf rt en pc L S h = some r) : ∃ r', ab_stp nf rt en pc L' S h = some r' ∧ ab_leR r r' := by
  obtain ⟨ins, ln, rs⟩ := en
  cases ins
  case iload_n k =>
    obtain ⟨x, h1, rfl⟩ := ab_ldi_i hst
    exact ⟨.inl ((pc + 1, L', .int x :: S), none), by simp only [ab_stp, ab_ldi, ab_le_at hL h1]; rfl, rfl, hL, rfl, rfl⟩
  case iload k =>
    obtain ⟨x, h1, rfl⟩ := ab_ldi_i hst
    exact ⟨.inl ((pc + 2, L', .int x :: S), none), by simp only [ab_stp, ab_ldi, ab_le_at hL h1]; rfl, rfl, hL, rfl, rfl⟩
  case lload_n k =>
    obtain ⟨x, h1, rfl⟩ := ab_ldl_i hst
    exact ⟨.inl ((pc + 1, L', .long x :: S), none), by simp only [ab_stp, ab_ldl, ab_le_at hL h1]; rfl, rfl, hL, rfl, rfl⟩
  case lload k =>
    obtain ⟨x, h1, rfl⟩ := ab_ldl_i hst
    exact ⟨.inl ((pc + 2, L', .long x :: S), none), by simp only [ab_stp, ab_ldl, ab_le_at hL h1]; rfl, rfl, hL, rfl, rfl⟩
  case aload_n k =>
    obtain ⟨x, h1, rfl⟩ := ab_lda_i hst
    exact ⟨.inl ((pc + 1, L', .ref x :: S), none), by simp only [ab_stp, ab_lda, ab_le_at hL h1]; rfl, rfl, hL, rfl, rfl⟩
  case aload k =>
    obtain ⟨x, h1, rfl⟩ := ab_lda_i hst
    exact ⟨.inl ((pc + 2, L', .ref x :: S), none), by simp only [ab_stp, ab_lda, ab_le_at hL h1]; rfl, rfl, hL, rfl, rfl⟩
  case istore_n k =>
    obtain ⟨x, R', rfl, h1, rfl⟩ := ab_sti_i hst
    exact ab_le_st1 hL hst
  case istore k =>
    obtain ⟨x, R', rfl, h1, rfl⟩ := ab_sti_i hst
    exact ab_le_st1 hL hst
  case lstore_n k =>
    obtain ⟨x, R', rfl, h1, rfl⟩ := ab_stl_i hst
    exact ab_le_st2 hL hst
  case lstore k =>
    obtain ⟨x, R', rfl, h1, rfl⟩ := ab_stl_i hst
    exact ab_le_st2 hL hst
  case astore_n k =>
    obtain ⟨x, R', rfl, h1, rfl⟩ := ab_sta_i hst
    exact ab_le_st1 hL hst
  case astore k =>
    obtain ⟨x, R', rfl, h1, rfl⟩ := ab_sta_i hst
    exact ab_le_st1 hL hst
  case iinc k n =>
    obtain ⟨x, h0, h1, rfl⟩ := ab_inc_i hst
    have hs : ab_st1 (.int (x + ab_k n)) k (pc + 3) L S = some (.inl ((pc + 3, (ab_cut L k).set k (some (.int (x + ab_k n))), S), none)) := by
      unfold ab_st1
      rw [if_pos h1]; rfl
    obtain ⟨r', g1, g2⟩ := ab_le_st1 hL hs
    exact ⟨r', by simp only [ab_stp, ab_inc, ab_le_at hL h0]; exact g1, g2⟩
  case putfield i =>
    simp only [ab_stp] at hst ⊢
    split at hst
    · have hst0 := hst
      obtain ⟨v, a, R', fs, rfl, h1, h2, h3, rfl⟩ := ab_put_i hst
      exact ab_rl_le hL (by rw [ab_put_L (L := L), hst0]) ⟨rfl, hL, rfl, rfl⟩
    · cases hst
  case iastore =>
    simp only [ab_stp] at hst ⊢
    have hst0 := hst
    obtain ⟨x, i, a, R', n, f, rfl, h1, h2, rfl⟩ := ab_ias_i hst
    exact ab_rl_le hL (by rw [ab_ias_L (L := L), hst0]) ⟨rfl, hL, rfl, rfl⟩
  case bastore =>
    simp only [ab_stp] at hst ⊢
    have hst0 := hst
    obtain ⟨x, i, a, R', n, f, rfl, h2, h3⟩ := ab_bas_i hst
    rcases h3 with ⟨h1, rfl⟩ | ⟨h1, rfl⟩ <;> exact ab_rl_le hL (by rw [ab_bas_L (L := L), hst0]) ⟨rfl, hL, rfl, rfl⟩
  case lastore =>
    simp only [ab_stp] at hst ⊢
    have hst0 := hst
    obtain ⟨x, i, a, R', n, f, rfl, h1, h2, rfl⟩ := ab_las_i hst
    exact ab_rl_le hL (by rw [ab_las_L (L := L), hst0]) ⟨rfl, hL, rfl, rfl⟩
  case aastore =>
    simp only [ab_stp] at hst ⊢
    have hst0 := hst
    obtain ⟨v, i, a, R', t, n, f, ci, fs, rfl, h1, hv, ht, h2, rfl⟩ := ab_aas_i hst
    exact ab_rl_le hL (by rw [ab_aas_L (L := L), hst0]) ⟨rfl, hL, rfl, rfl⟩
  case newarray =>
    simp only [ab_stp] at hst ⊢
    split at hst
    · obtain ⟨n, R', x, rfl, hn, h4, hmk, hx4⟩ := ab_newa_i hst
      obtain ⟨h9, o1, o2, o3, rfl⟩ := ab_mk_i hmk
      refine ⟨.inr (.inl ((pc + 2, L', R'), x)), ?_, rfl, hL, rfl, rfl⟩
      have hmk2 : ab_mk x (pc + 2) L' R' h = some (.inr (.inl ((pc + 2, L', R'), x))) := by
        unfold ab_mk
        rw [ab_le_out hL o1, o2, o3, show Nat.blt h.length 900 = true from Nat.ble_eq_true_of_le h9]; rfl
      rcases hx4 with ⟨rfl, rfl⟩ | ⟨rfl, rfl⟩ | ⟨rfl, rfl⟩ | ⟨rfl, rfl⟩ <;> (simp only [ab_newa, if_neg hn, if_pos h4]; exact hmk2)
    · cases hst
  case anewarray =>
    simp only [ab_stp] at hst ⊢
    split at hst
    · obtain ⟨n, R', rfl, hn, h4, hmk⟩ := ab_anew_i hst
      obtain ⟨h9, o1, o2, o3, rfl⟩ := ab_mk_i hmk
      refine ⟨.inr (.inl ((pc + 3, L', R'), _)), ?_, rfl, hL, rfl, rfl⟩
      simp only [ab_anew, if_neg hn, if_pos h4]
      unfold ab_mk
      rw [ab_le_out hL o1, o2, o3, show Nat.blt h.length 900 = true from Nat.ble_eq_true_of_le h9]; rfl
    · cases hst
  case new =>
    simp only [ab_stp] at hst ⊢
    split at hst
    · obtain ⟨h9, o1, o2, o3, rfl⟩ := ab_mk_i hst
      refine ⟨.inr (.inl ((pc + 3, L', S), _)), ?_, rfl, hL, rfl, rfl⟩
      unfold ab_mk
      rw [ab_le_out hL o1, o2, o3, show Nat.blt h.length 900 = true from Nat.ble_eq_true_of_le h9]; rfl
    · cases hst
  case invokevirtual =>
    simp only [ab_stp] at hst ⊢
    split at hst
    · have hst0 := hst
      obtain ⟨b, R', g1, g2, g3, g4, rfl⟩ := ab_inv_i hst
      exact ab_rl_le hL (by rw [ab_inv_L (L := L), hst0]) ⟨rfl, hL, rfl, rfl, rfl⟩
    · cases hst
  case invokestatic =>
    simp only [ab_stp] at hst ⊢
    split at hst
    · have hst0 := hst
      obtain ⟨n, i1, R', rfl, h1, h2, h3, rfl⟩ := ab_chk_i hst
      exact ab_rl_le hL (by rw [ab_chk_L (L := L), hst0]) ⟨rfl, hL, rfl, rfl⟩
    · have hst0 := hst
      obtain ⟨g1, g3, rfl⟩ := ab_ins_i hst
      exact ab_rl_le hL (by rw [ab_ins_L (L := L), hst0]) ⟨rfl, hL, rfl, rfl, rfl⟩
    · cases hst
  case invokespecial =>
    simp only [ab_stp] at hst ⊢
    split at hst
    · have hst0 := hst
      obtain ⟨b, R', rfl, h1, rfl⟩ := ab_obj_i hst
      exact ab_rl_le hL (by rw [ab_obj_L (L := L), hst0]) ⟨rfl, hL, rfl, rfl⟩
    · have hst0 := hst
      obtain ⟨b, R', g1, g2, g3, rfl⟩ := ab_inz_i hst
      exact ab_rl_le hL (by rw [ab_inz_L (L := L), hst0]) ⟨rfl, hL, rfl, rfl, rfl⟩
    · cases hst
  case ireturn =>
    have hst0 := hst
    obtain ⟨ty, x, h1, rfl, h2, rfl⟩ := ab_reti_i hst
    exact ⟨_, hst0, rfl⟩
  case lreturn =>
    have hst0 := hst
    obtain ⟨x, h1, rfl, rfl⟩ := ab_retl_i hst
    exact ⟨_, hst0, rfl⟩
  case return_ =>
    have hst0 := hst
    obtain ⟨h1, rfl, rfl⟩ := ab_retv_i hst
    exact ⟨_, hst0, rfl⟩
  case getfield =>
    simp only [ab_stp] at hst ⊢
    split at hst
    · have hst0 := hst
      rcases ab_fld_i hst with ⟨a, R', fs, v, rfl, h1, h2, rfl⟩ | ⟨a, R', rfl, rfl, h1, h2, ⟨rfl, rfl⟩ | ⟨rfl, rfl⟩⟩ <;> exact ab_rl_le hL (by rw [ab_fld_L (L := L), hst0]) ⟨rfl, hL, rfl, rfl⟩
    · cases hst
  case iaload =>
    simp only [ab_stp] at hst ⊢
    have hst0 := hst
    obtain ⟨i, a, R', n, f, rfl, h1, h2, rfl⟩ := ab_ial_i hst
    exact ab_rl_le hL (by rw [ab_ial_L (L := L), hst0]) ⟨rfl, hL, rfl, rfl⟩
  case baload =>
    simp only [ab_stp] at hst ⊢
    have hst0 := hst
    rcases ab_bal_i hst with ⟨i, a, R', n, f, rfl, h1, h2, rfl⟩ | ⟨i, a, R', rfl, h1, h2, h3, rfl⟩ <;> exact ab_rl_le hL (by rw [ab_bal_L (L := L), hst0]) ⟨rfl, hL, rfl, rfl⟩
  case laload =>
    simp only [ab_stp] at hst ⊢
    have hst0 := hst
    rcases ab_lal_i hst with ⟨i, a, R', n, f, rfl, h1, h2, rfl⟩ | ⟨i, R', rfl, h2, rfl⟩ <;> exact ab_rl_le hL (by rw [ab_lal_L (L := L), hst0]) ⟨rfl, hL, rfl, rfl⟩
  case aaload =>
    simp only [ab_stp] at hst ⊢
    have hst0 := hst
    obtain ⟨i, a, R', t, n, f, q, rfl, ht, h1, h2, h3, rfl⟩ := ab_aal_i hst
    exact ab_rl_le hL (by rw [ab_aal_L (L := L), hst0]) ⟨rfl, hL, rfl, rfl⟩
  case arraylength =>
    simp only [ab_stp] at hst ⊢
    have hst0 := hst
    rcases ab_len_i hst with ⟨a, R', t, x, rfl, ht, h1, rfl⟩ | ⟨R', rfl, rfl⟩ | ⟨a, R', rfl, h1, h2, rfl⟩ <;> exact ab_rl_le hL (by rw [ab_len_L (L := L), hst0]) ⟨rfl, hL, rfl, rfl⟩
  case tableswitch =>
    simp only [ab_stp] at hst ⊢
    have hst0 := hst
    obtain ⟨x, R', t1, rfl, rfl, h1⟩ := ab_tsw_i hst
    exact ab_rl_le hL (by rw [ab_tsw_L (L := L), hst0]) ⟨rfl, hL, rfl, rfl⟩
  case lookupswitch =>
    simp only [ab_stp] at hst ⊢
    have hst0 := hst
    obtain ⟨x, R', d', u0, u1, rfl, e0, rfl⟩ := ab_lsw_i hst
    exact ab_rl_le hL (by rw [ab_lsw_L (L := L), hst0]) ⟨rfl, hL, rfl, rfl⟩
  all_goals first
    | (cases hst; done)
    | (simp only [ab_stp] at hst ⊢
       have hst0 := hst
       obtain ⟨x, y, R', rfl, rfl⟩ := ab_ii_i hst; exact ab_rl_le hL (by rw [ab_ii_L (L := L), hst0]) ⟨rfl, hL, rfl, rfl⟩)
    | (simp only [ab_stp] at hst ⊢
       have hst0 := hst
       obtain ⟨x, y, R', rfl, h0, rfl⟩ := ab_dv_i hst; exact ab_rl_le hL (by rw [ab_dv_L (L := L), hst0]) ⟨rfl, hL, rfl, rfl⟩)
    | (simp only [ab_stp] at hst ⊢
       have hst0 := hst
       obtain ⟨x, y, R', rfl, rfl⟩ := ab_ll_i hst; exact ab_rl_le hL (by rw [ab_ll_L (L := L), hst0]) ⟨rfl, hL, rfl, rfl⟩)
    | (simp only [ab_stp] at hst ⊢
       have hst0 := hst
       obtain ⟨x, y, R', rfl, rfl⟩ := ab_li_i hst; exact ab_rl_le hL (by rw [ab_li_L (L := L), hst0]) ⟨rfl, hL, rfl, rfl⟩)
    | (simp only [ab_stp] at hst ⊢
       have hst0 := hst
       obtain ⟨x, R', rfl, rfl⟩ := ab_i1_i hst; exact ab_rl_le hL (by rw [ab_i1_L (L := L), hst0]) ⟨rfl, hL, rfl, rfl⟩)
    | (simp only [ab_stp] at hst ⊢
       have hst0 := hst
       obtain ⟨x, R', rfl, rfl⟩ := ab_l1_i hst; exact ab_rl_le hL (by rw [ab_l1_L (L := L), hst0]) ⟨rfl, hL, rfl, rfl⟩)
    | (simp only [ab_stp] at hst ⊢
       have hst0 := hst
       obtain ⟨v, R', rfl, h0, rfl⟩ := ab_dup_i hst; exact ab_rl_le hL (by rw [ab_dup_L (L := L), hst0]) ⟨rfl, hL, rfl, rfl⟩)
    | (simp only [ab_stp] at hst ⊢
       have hst0 := hst
       obtain ⟨v, R', rfl, h0, rfl⟩ := ab_pop_i hst; exact ab_rl_le hL (by rw [ab_pop_L (L := L), hst0]) ⟨rfl, hL, rfl, rfl⟩)
    | (simp only [ab_stp] at hst ⊢
       have hst0 := hst
       obtain ⟨y, a, R', rfl, rfl⟩ := ab_dup2_i hst; exact ab_rl_le hL (by rw [ab_dup2_L (L := L), hst0]) ⟨rfl, hL, rfl, rfl⟩)
    | (cases hst; exact ⟨_, rfl, rfl, hL, rfl, rfl⟩)
    | (simp only [ab_stp] at hst ⊢
       split at hst
       all_goals first
        | (cases hst; done)
        | (cases hst; exact ⟨_, rfl, rfl, hL, rfl, rfl⟩)
        | (have hst0 := hst
           obtain ⟨x, y, R', rfl, rfl⟩ := ab_br_i hst; exact ab_rl_le hL (by rw [ab_br_L (L := L), hst0]) ⟨rfl, hL, rfl, rfl⟩)
        | (have hst0 := hst
           obtain ⟨x, R', rfl, rfl⟩ := ab_bz_i hst; exact ab_rl_le hL (by rw [ab_bz_L (L := L), hst0]) ⟨rfl, hL, rfl, rfl⟩))
theorem ab_wkn {nf : Nat → Nat × Nat × Nat} {mt : Nat → Option FieldType × List (List (Option aE))} : ∀ (n d mi pc : Nat) (L L' : aL) (S : List Value) (h : aH) (r : Option Value × aH), ab_le L L' → ab_rn nf mt n d mi pc L S h = some r → ab_rn nf mt n d mi pc L' S h = some r
  | 0, _, _, _, _, _, _, _, _, _, hr => by cases hr
  | n + 1, d, mi, pc, L, L', S, h, r, hL, hr => by
    rw [ab_rn] at hr ⊢
    cases hlk : ab_look (mt mi).2 pc with
    | none => rw [hlk] at hr; cases hr
    | some en =>
      rw [hlk] at hr
      simp only at hr ⊢
      cases hst : ab_stp nf (mt mi).1 en pc L S h with
      | none => rw [hst] at hr; cases hr
      | some q =>
        rw [hst] at hr
        obtain ⟨q', hq, hle⟩ := ab_wk1 hL hst
        rw [hq]
        obtain ⟨⟨pc', L1, S'⟩, w⟩ | ⟨⟨pc', L1, S'⟩, x⟩ | v | ⟨⟨pc', L1, S'⟩, j, As⟩ := q <;> obtain ⟨⟨pc2, L2, S2⟩, w2⟩ | ⟨⟨pc2, L2, S2⟩, x2⟩ | v2 | ⟨⟨pc2, L2, S2⟩, j2, As2⟩ := q'
        · obtain ⟨rfl, h2, rfl, rfl⟩ := hle
          exact ab_wkn n _ _ _ _ _ _ _ _ h2 hr
        · exact hle.elim
        · exact hle.elim
        · exact hle.elim
        · exact hle.elim
        · obtain ⟨rfl, h2, rfl, rfl⟩ := hle
          exact ab_wkn n _ _ _ _ _ _ _ _ h2 hr
        · exact hle.elim
        · exact hle.elim
        · exact hle.elim
        · exact hle.elim
        · obtain rfl := (show v = v2 from hle)
          exact hr
        · exact hle.elim
        · exact hle.elim
        · exact hle.elim
        · exact hle.elim
        · obtain ⟨rfl, h2, rfl, rfl, rfl⟩ := hle
          cases d with
          | zero => cases hr
          | succ d' =>
            obtain ⟨b1, hr1⟩ := ab_bif hr
            simp only [b1]
            show (match ab_rn nf mt _ _ j 0 (ab_ent (nf j).2.2 As) [] h with
              | none => none
              | some (v, h') => _) = _
            cases hc : ab_rn nf mt n d' j 0 (ab_ent (nf j).2.2 As) [] h with
            | none => rw [hc] at hr1; cases hr1
            | some q =>
              rw [hc] at hr1
              obtain ⟨v1, h1⟩ := q
              obtain ⟨b2, hr2⟩ := ab_bif hr1
              have b3 : (Nat.beq h1.length h.length || (ab_outL h.length L2 && S'.all (ab_out h.length))) = true := by
                rw [Bool.or_eq_true] at b2 ⊢
                rcases b2 with b2 | b2
                · exact Or.inl b2
                · simp only [Bool.and_eq_true] at b2 ⊢
                  exact Or.inr ⟨ab_le_out h2 b2.1, b2.2⟩
              simp only [b3]
              exact ab_wkn n _ _ _ _ _ _ _ _ h2 hr2
theorem ab_le_nil : ab_le [] [] := ab_le_rf []
theorem ab_le_cons {a b : Option Value} {L L' : aL} (h : ab_lv1 a b) (hl : ab_le L L') : ab_le (a :: L) (b :: L') := by
  refine ⟨by simp [hl.1], fun k => ?_⟩
  cases k with
  | zero => exact h
  | succ k => exact hl.2 k
theorem ab_le_s {a : Option Value} {L L' : aL} (hl : ab_le L L') : ab_le (a :: L) (a :: L') := ab_le_cons (Or.inl rfl) hl
theorem ab_le_i {x : Int32} {L L' : aL} (hl : ab_le L L') : ab_le (none :: L) (some (.int x) :: L') := ab_le_cons (Or.inr ⟨rfl, Or.inl ⟨x, rfl⟩⟩) hl
theorem ab_le_l {x : Int64} {L L' : aL} (hl : ab_le L L') : ab_le (none :: L) (some (.long x) :: L') := ab_le_cons (Or.inr ⟨rfl, Or.inr ⟨x, rfl⟩⟩) hl
theorem Go.wk {d mi pc : Nat} {L L' : aL} {S : List Value} {h h' : aH} {v : Option Value} (hl : ab_le L L') (g : Go d mi pc L S h v h') : Go d mi pc L' S h v h' := by
  obtain ⟨n, hn⟩ := g
  exact ⟨n, ab_wkn _ _ _ _ _ _ _ _ _ hl hn⟩
theorem ab_bt {P : Prop} [Decidable P] (h : ¬ (if P then (1 : Int32) else 0) = 0) : P := by
  by_cases hp : P
  · exact hp
  · rw [if_neg hp] at h; exact absurd rfl h
theorem ab_bf {P : Prop} [Decidable P] (h : (if P then (1 : Int32) else 0) = 0) : ¬ P := by
  intro hp
  rw [if_pos hp] at h
  exact absurd h (by decide)
