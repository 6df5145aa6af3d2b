/-! locals that nobody reads any more -/
def ab_lv1 (a b : Option Value) : Prop := a = b ∨ (a = none ∧ ((∃ x, b = some (.int x)) ∨ ∃ x, b = some (.long x)))
def ab_le (L L' : aL) : Prop := L.length = L'.length ∧ ∀ k : Nat, ab_lv1 (L.getD k none) (L'.getD k none)
theorem ab_le_rf (L : aL) : ab_le L L := ⟨rfl, fun _ => Or.inl rfl⟩
theorem ab_le_at {L L' : aL} (h : ab_le L L') {k : Nat} {v : Value} (hk : L[k]? = some (some v)) : L'[k]? = some (some v) := by
  have h1 := h.2 k
  have hl := (List.getElem?_eq_some_iff.mp hk).1
  have hl' : k < L'.length := by rw [← h.1]; exact hl
  rw [List.getD_eq_getElem?_getD, List.getD_eq_getElem?_getD, hk, List.getElem?_eq_getElem hl'] at h1
  rw [List.getElem?_eq_getElem hl']
  rcases h1 with h1 | h1
  · have h1 : some v = L'[k] := h1
    rw [← h1]
  · exact absurd h1.1 (by simp)
theorem ab_le_cut {L L' : aL} (h : ab_le L L') (i : Nat) : ab_le (ab_cut L i) (ab_cut L' i) := by
  refine ⟨by rw [ab_cut_len, ab_cut_len]; exact h.1, fun k => ?_⟩
  have hk := h.2 k
  have cutv : ∀ (M : aL), (ab_cut M i).getD k none = M.getD k none ∨ (ab_cut M i).getD k none = none := by
    intro M
    unfold ab_cut
    split
    · next w _ =>
      cases hb : (Nat.beq (ab_cat w) 2 && !(Nat.beq i 0)) with
      | false => exact Or.inl rfl
      | true =>
        show (M.set (i - 1) none).getD k none = _ ∨ _
        by_cases hz : i - 1 = k
        · right
          show (M.set (i - 1) none).getD k none = none
          rw [List.getD_eq_getElem?_getD, List.getElem?_set]
          split
          · split <;> rfl
          · next hn => exact absurd hz hn
        · left
          show (M.set (i - 1) none).getD k none = M.getD k none
          rw [List.getD_eq_getElem?_getD, List.getElem?_set_ne hz, ← List.getD_eq_getElem?_getD]
    · exact Or.inl rfl
  have low : ∀ v, (ab_cut L i).getD k none = some v → (ab_cut L' i).getD k none = some v := by
    intro v hv
    rw [List.getD_eq_getElem?_getD] at hv
    have hv2 : (ab_cut L i)[k]? = some (some v) := by
      cases hz : (ab_cut L i)[k]? with
      | none => rw [hz] at hv; cases hv
      | some o => rw [hz] at hv; cases hv; rfl
    obtain ⟨g1, g2⟩ := ab_cut_at hv2
    have g3 := ab_le_at h g1
    have g4 : (ab_cut L' i)[k]? = some (some v) := by
      unfold ab_cut
      split
      · next w hw =>
        cases hb : (Nat.beq (ab_cat w) 2 && !(Nat.beq i 0)) with
        | false => exact g3
        | true =>
          show (L'.set (i - 1) none)[k]? = _
          have hne : ¬ i - 1 = k := by
            intro z
            rw [z, g3] at hw
            cases hw
            simp only [Bool.and_eq_true, Bool.not_eq_true'] at hb
            have h0 : i ≠ 0 := fun z0 => by rw [z0] at hb; exact absurd hb.2 (by decide)
            exact g2 ⟨by omega, Nat.eq_of_beq_eq_true hb.1⟩
          rw [List.getElem?_set_ne hne]
          exact g3
      · exact g3
    rw [List.getD_eq_getElem?_getD, g4]
    rfl
  cases ha : (ab_cut L i).getD k none with
  | some v => exact Or.inl (low v ha).symm
  | none =>
    rcases cutv L' with z | z
    · rw [z]
      rcases hk with hk | hk
      · rcases cutv L with y | y
        · rw [← hk, ← y, ha]; exact Or.inl rfl
        · -- cut on the left: a long there; the same value on the right
          cases hq : L'.getD k none with
          | none => exact Or.inl rfl
          | some w =>
            rw [hq] at hk
            refine Or.inr ⟨rfl, ?_⟩
            have hLk : L[k]? = some (some w) := by
              rw [List.getD_eq_getElem?_getD] at hk
              cases hz : L[k]? with
              | none => rw [hz] at hk; cases hk
              | some o => rw [hz] at hk; cases hk; rfl
            -- L lost it: so w is of two slots
            unfold ab_cut at ha
            split at ha
            · next u hu =>
              cases hb : (Nat.beq (ab_cat u) 2 && !(Nat.beq i 0)) with
              | false =>
                rw [hb] at ha
                have ha : L.getD k none = none := ha
                rw [ha] at hk; cases hk
              | true =>
                rw [hb] at ha
                have ha : (L.set (i - 1) none).getD k none = none := ha
                by_cases hz : i - 1 = k
                · subst hz
                  rw [hLk] at hu
                  cases hu
                  -- on the right the same cut happens
                  have hcut : (ab_cut L' i).getD (i - 1) none = none := by
                    unfold ab_cut
                    rw [ab_le_at h hLk]
                    simp only [hb]
                    show (L'.set (i - 1) none).getD (i - 1) none = none
                    rw [List.getD_eq_getElem?_getD, List.getElem?_set]
                    split
                    · split <;> rfl
                    · next hn => exact absurd rfl hn
                  rw [z, hq] at hcut
                  cases hcut
                · rw [List.getD_eq_getElem?_getD, List.getElem?_set_ne hz, hLk] at ha
                  cases ha
            · rw [ha] at hk; cases hk
      · exact Or.inr ⟨rfl, hk.2⟩
    · rw [z]; exact Or.inl rfl
theorem ab_le_set {L L' : aL} (h : ab_le L L') (i : Nat) (o : Option Value) : ab_le (L.set i o) (L'.set i o) := by
  refine ⟨by simp [h.1], fun k => ?_⟩
  by_cases hk : i = k
  · subst hk
    by_cases hl : i < L.length
    · rw [List.getD_eq_getElem?_getD, List.getD_eq_getElem?_getD, List.getElem?_set_self hl, List.getElem?_set_self (by rw [← h.1]; exact hl)]
      exact Or.inl rfl
    · rw [List.getD_eq_getElem?_getD, List.getD_eq_getElem?_getD, List.getElem?_eq_none (by simp; omega), List.getElem?_eq_none (by simp; rw [← h.1]; omega)]
      exact Or.inl rfl
  · rw [List.getD_eq_getElem?_getD, List.getD_eq_getElem?_getD, List.getElem?_set_ne hk, List.getElem?_set_ne hk, ← List.getD_eq_getElem?_getD, ← List.getD_eq_getElem?_getD]
    exact h.2 k
theorem ab_le_out {L L' : aL} {n : Nat} (h : ab_le L L') (ho : ab_outL n L = true) : ab_outL n L' = true := by
  refine List.all_eq_true.mpr fun o hm => ?_
  obtain ⟨k, hk⟩ := List.getElem?_of_mem hm
  have hl' := (List.getElem?_eq_some_iff.mp hk).1
  have hl : k < L.length := by rw [h.1]; exact hl'
  have h1 := h.2 k
  rw [List.getD_eq_getElem?_getD, List.getD_eq_getElem?_getD, hk, List.getElem?_eq_getElem hl] at h1
  have h2 := List.all_eq_true.mp ho L[k] (List.getElem_mem hl)
  rcases h1 with h1 | ⟨-, ⟨x, h1⟩ | ⟨x, h1⟩⟩
  · have h1 : L[k] = o := h1
    rw [← h1]; exact h2
  · have h1 : o = some (.int x) := h1
    rw [h1]; rfl
  · have h1 : o = some (.long x) := h1
    rw [h1]; rfl
def ab_leR (r r' : aR) : Prop := match r, r' with
  | .inl ((pc, L, S), w), .inl ((pc', L', S'), w') => pc = pc' ∧ ab_le L L' ∧ S = S' ∧ w = w'
  | .inr (.inl ((pc, L, S), x)), .inr (.inl ((pc', L', S'), x')) => pc = pc' ∧ ab_le L L' ∧ S = S' ∧ x = x'
  | .inr (.inr (.inl v)), .inr (.inr (.inl v')) => v = v'
  | .inr (.inr (.inr ((pc, L, S), j, As))), .inr (.inr (.inr ((pc', L', S'), j', As'))) => pc = pc' ∧ ab_le L L' ∧ S = S' ∧ j = j' ∧ As = As'
  | _, _ => False
theorem ab_le_st1 {L L' : aL} {v : Value} {i pc : Nat} {R : List Value} {r : aR} (h : ab_le L L') (hs : ab_st1 v i pc L R = some r) : ∃ r', ab_st1 v i pc L' R = some r' ∧ ab_leR r r' := by
  obtain ⟨h1, rfl⟩ := ab_st1_i hs
  refine ⟨.inl ((pc, (ab_cut L' i).set i (some v), R), none), ?_, rfl, ab_le_set (ab_le_cut h i) _ _, rfl, rfl⟩
  unfold ab_st1
  rw [if_pos (by rw [← h.1]; exact h1)]
  rfl
theorem ab_le_st2 {L L' : aL} {v : Value} {i pc : Nat} {R : List Value} {r : aR} (h : ab_le L L') (hs : ab_st2 v i pc L R = some r) : ∃ r', ab_st2 v i pc L' R = some r' ∧ ab_leR r r' := by
  obtain ⟨h1, rfl⟩ := ab_st2_i hs
  refine ⟨.inl ((pc, ((ab_cut L' i).set i (some v)).set (i + 1) none, R), none), ?_, rfl, ab_le_set (ab_le_set (ab_le_cut h i) _ _) _ _, rfl, rfl⟩
  unfold ab_st2
  rw [if_pos (by rw [← h.1]; exact h1)]
  rfl
def ab_rl (L : aL) : aR → aR
  | .inl ((pc, _, S), w) => .inl ((pc, L, S), w)
  | .inr (.inl ((pc, _, S), x)) => .inr (.inl ((pc, L, S), x))
  | .inr (.inr (.inl v)) => .inr (.inr (.inl v))
  | .inr (.inr (.inr ((pc, _, S), j, As))) => .inr (.inr (.inr ((pc, L, S), j, As)))
theorem ab_bifm {α β : Type} {b : Bool} {x : Option α} {f : α → β} : (bif b then x else none).map f = bif b then x.map f else none := by cases b <;> rfl
theorem ab_ii_L {L L' : aL} {S : List Value} {f : Int32 → Int32 → Int32} {pc : Nat} : ab_ii f pc L' S = (ab_ii f pc L S).map (ab_rl L') := by
  unfold ab_ii
  repeat' split
  all_goals first
    | rfl
    | (simp only [ab_bifm]; rfl)
    | (simp only [ab_bifm]; repeat' split
       all_goals rfl)
    | (simp only [ab_bifm]; congr 1; repeat' split
       all_goals first | rfl | (simp only [ab_bifm]; repeat' split
                                all_goals rfl))
    | (cases ab_cd _ _ _ <;> rfl)
theorem ab_dv_L {L L' : aL} {S : List Value} {f : Int32 → Int32 → Int32} {pc : Nat} : ab_dv f pc L' S = (ab_dv f pc L S).map (ab_rl L') := by
  unfold ab_dv
  repeat' split
  all_goals first
    | rfl
    | (simp only [ab_bifm]; rfl)
    | (simp only [ab_bifm]; repeat' split
       all_goals rfl)
    | (simp only [ab_bifm]; congr 1; repeat' split
       all_goals first | rfl | (simp only [ab_bifm]; repeat' split
                                all_goals rfl))
    | (cases ab_cd _ _ _ <;> rfl)
theorem ab_ll_L {L L' : aL} {S : List Value} {f : Int64 → Int64 → Value} {pc : Nat} : ab_ll f pc L' S = (ab_ll f pc L S).map (ab_rl L') := by
  unfold ab_ll
  repeat' split
  all_goals first
    | rfl
    | (simp only [ab_bifm]; rfl)
    | (simp only [ab_bifm]; repeat' split
       all_goals rfl)
    | (simp only [ab_bifm]; congr 1; repeat' split
       all_goals first | rfl | (simp only [ab_bifm]; repeat' split
                                all_goals rfl))
    | (cases ab_cd _ _ _ <;> rfl)
theorem ab_li_L {L L' : aL} {S : List Value} {f : Int64 → Int32 → Int64} {pc : Nat} : ab_li f pc L' S = (ab_li f pc L S).map (ab_rl L') := by
  unfold ab_li
  repeat' split
  all_goals first
    | rfl
    | (simp only [ab_bifm]; rfl)
    | (simp only [ab_bifm]; repeat' split
       all_goals rfl)
    | (simp only [ab_bifm]; congr 1; repeat' split
       all_goals first | rfl | (simp only [ab_bifm]; repeat' split
                                all_goals rfl))
    | (cases ab_cd _ _ _ <;> rfl)
theorem ab_i1_L {L L' : aL} {S : List Value} {f : Int32 → Value} {pc : Nat} : ab_i1 f pc L' S = (ab_i1 f pc L S).map (ab_rl L') := by
  unfold ab_i1
  repeat' split
  all_goals first
    | rfl
    | (simp only [ab_bifm]; rfl)
    | (simp only [ab_bifm]; repeat' split
       all_goals rfl)
    | (simp only [ab_bifm]; congr 1; repeat' split
       all_goals first | rfl | (simp only [ab_bifm]; repeat' split
                                all_goals rfl))
    | (cases ab_cd _ _ _ <;> rfl)
theorem ab_l1_L {L L' : aL} {S : List Value} {f : Int64 → Value} {pc : Nat} : ab_l1 f pc L' S = (ab_l1 f pc L S).map (ab_rl L') := by
  unfold ab_l1
  repeat' split
  all_goals first
    | rfl
    | (simp only [ab_bifm]; rfl)
    | (simp only [ab_bifm]; repeat' split
       all_goals rfl)
    | (simp only [ab_bifm]; congr 1; repeat' split
       all_goals first | rfl | (simp only [ab_bifm]; repeat' split
                                all_goals rfl))
    | (cases ab_cd _ _ _ <;> rfl)
theorem ab_dup_L {L L' : aL} {S : List Value} {pc : Nat} : ab_dup pc L' S = (ab_dup pc L S).map (ab_rl L') := by
  unfold ab_dup
  repeat' split
  all_goals first
    | rfl
    | (simp only [ab_bifm]; rfl)
    | (simp only [ab_bifm]; repeat' split
       all_goals rfl)
    | (simp only [ab_bifm]; congr 1; repeat' split
       all_goals first | rfl | (simp only [ab_bifm]; repeat' split
                                all_goals rfl))
    | (cases ab_cd _ _ _ <;> rfl)
theorem ab_pop_L {L L' : aL} {S : List Value} {pc : Nat} : ab_pop pc L' S = (ab_pop pc L S).map (ab_rl L') := by
  unfold ab_pop
  repeat' split
  all_goals first
    | rfl
    | (simp only [ab_bifm]; rfl)
    | (simp only [ab_bifm]; repeat' split
       all_goals rfl)
    | (simp only [ab_bifm]; congr 1; repeat' split
       all_goals first | rfl | (simp only [ab_bifm]; repeat' split
                                all_goals rfl))
    | (cases ab_cd _ _ _ <;> rfl)
theorem ab_dup2_L {L L' : aL} {S : List Value} {pc : Nat} : ab_dup2 pc L' S = (ab_dup2 pc L S).map (ab_rl L') := by
  unfold ab_dup2
  repeat' split
  all_goals first
    | rfl
    | (simp only [ab_bifm]; rfl)
    | (simp only [ab_bifm]; repeat' split
       all_goals rfl)
    | (simp only [ab_bifm]; congr 1; repeat' split
       all_goals first | rfl | (simp only [ab_bifm]; repeat' split
                                all_goals rfl))
    | (cases ab_cd _ _ _ <;> rfl)
theorem ab_br_L {L L' : aL} {S : List Value} {c : ClassFile.Cond} {t pc : Nat} : ab_br c t pc L' S = (ab_br c t pc L S).map (ab_rl L') := by
  unfold ab_br
  repeat' split
  all_goals first
    | rfl
    | (simp only [ab_bifm]; rfl)
    | (simp only [ab_bifm]; repeat' split
       all_goals rfl)
    | (simp only [ab_bifm]; congr 1; repeat' split
       all_goals first | rfl | (simp only [ab_bifm]; repeat' split
                                all_goals rfl))
    | (cases ab_cd _ _ _ <;> rfl)
theorem ab_bz_L {L L' : aL} {S : List Value} {c : ClassFile.Cond} {t pc : Nat} : ab_bz c t pc L' S = (ab_bz c t pc L S).map (ab_rl L') := by
  unfold ab_bz
  repeat' split
  all_goals first
    | rfl
    | (simp only [ab_bifm]; rfl)
    | (simp only [ab_bifm]; repeat' split
       all_goals rfl)
    | (simp only [ab_bifm]; congr 1; repeat' split
       all_goals first | rfl | (simp only [ab_bifm]; repeat' split
                                all_goals rfl))
    | (cases ab_cd _ _ _ <;> rfl)
theorem ab_tsw_L {L L' : aL} {S : List Value} {lo hi : Int} {ts : List Nat} : ab_tsw lo hi ts L' S = (ab_tsw lo hi ts L S).map (ab_rl L') := by
  unfold ab_tsw
  repeat' split
  all_goals first
    | rfl
    | (simp only [ab_bifm]; rfl)
    | (simp only [ab_bifm]; repeat' split
       all_goals rfl)
    | (simp only [ab_bifm]; congr 1; repeat' split
       all_goals first | rfl | (simp only [ab_bifm]; repeat' split
                                all_goals rfl))
    | (cases ab_cd _ _ _ <;> rfl)
theorem ab_lsw_L {L L' : aL} {S : List Value} {ts : List Nat} : ab_lsw ts L' S = (ab_lsw ts L S).map (ab_rl L') := by
  unfold ab_lsw
  repeat' split
  all_goals first
    | rfl
    | (simp only [ab_bifm]; rfl)
    | (simp only [ab_bifm]; repeat' split
       all_goals rfl)
    | (simp only [ab_bifm]; congr 1; repeat' split
       all_goals first | rfl | (simp only [ab_bifm]; repeat' split
                                all_goals rfl))
    | (cases ab_cd _ _ _ <;> rfl)
theorem ab_fld_L {L L' : aL} {S : List Value} {ci k pc : Nat} {h : aH} : ab_fld ci k pc L' S h = (ab_fld ci k pc L S h).map (ab_rl L') := by
  unfold ab_fld
  repeat' split
  all_goals first
    | rfl
    | (simp only [ab_bifm]; rfl)
    | (simp only [ab_bifm]; repeat' split
       all_goals rfl)
    | (simp only [ab_bifm]; congr 1; repeat' split
       all_goals first | rfl | (simp only [ab_bifm]; repeat' split
                                all_goals rfl))
    | (cases ab_cd _ _ _ <;> rfl)
theorem ab_put_L {L L' : aL} {S : List Value} {ci k pc : Nat} {ty : FieldType} {h : aH} : ab_put ci k pc ty L' S h = (ab_put ci k pc ty L S h).map (ab_rl L') := by
  unfold ab_put
  repeat' split
  all_goals first
    | rfl
    | (simp only [ab_bifm]; rfl)
    | (simp only [ab_bifm]; repeat' split
       all_goals rfl)
    | (simp only [ab_bifm]; congr 1; repeat' split
       all_goals first | rfl | (simp only [ab_bifm]; repeat' split
                                all_goals rfl))
    | (cases ab_cd _ _ _ <;> rfl)
theorem ab_ial_L {L L' : aL} {S : List Value} {pc : Nat} {h : aH} : ab_ial pc L' S h = (ab_ial pc L S h).map (ab_rl L') := by
  unfold ab_ial
  repeat' split
  all_goals first
    | rfl
    | (simp only [ab_bifm]; rfl)
    | (simp only [ab_bifm]; repeat' split
       all_goals rfl)
    | (simp only [ab_bifm]; congr 1; repeat' split
       all_goals first | rfl | (simp only [ab_bifm]; repeat' split
                                all_goals rfl))
    | (cases ab_cd _ _ _ <;> rfl)
theorem ab_bal_L {L L' : aL} {S : List Value} {pc : Nat} {h : aH} : ab_bal pc L' S h = (ab_bal pc L S h).map (ab_rl L') := by
  unfold ab_bal
  repeat' split
  all_goals first
    | rfl
    | (simp only [ab_bifm]; rfl)
    | (simp only [ab_bifm]; repeat' split
       all_goals rfl)
    | (simp only [ab_bifm]; congr 1; repeat' split
       all_goals first | rfl | (simp only [ab_bifm]; repeat' split
                                all_goals rfl))
    | (cases ab_cd _ _ _ <;> rfl)
theorem ab_lal_L {L L' : aL} {S : List Value} {pc : Nat} {h : aH} : ab_lal pc L' S h = (ab_lal pc L S h).map (ab_rl L') := by
  unfold ab_lal
  repeat' split
  all_goals first
    | rfl
    | (simp only [ab_bifm]; rfl)
    | (simp only [ab_bifm]; repeat' split
       all_goals rfl)
    | (simp only [ab_bifm]; congr 1; repeat' split
       all_goals first | rfl | (simp only [ab_bifm]; repeat' split
                                all_goals rfl))
    | (cases ab_cd _ _ _ <;> rfl)
theorem ab_aal_L {L L' : aL} {S : List Value} {pc : Nat} {h : aH} : ab_aal pc L' S h = (ab_aal pc L S h).map (ab_rl L') := by
  unfold ab_aal
  repeat' split
  all_goals first
    | rfl
    | (simp only [ab_bifm]; rfl)
    | (simp only [ab_bifm]; repeat' split
       all_goals rfl)
    | (simp only [ab_bifm]; congr 1; repeat' split
       all_goals first | rfl | (simp only [ab_bifm]; repeat' split
                                all_goals rfl))
    | (cases ab_cd _ _ _ <;> rfl)
theorem ab_ias_L {L L' : aL} {S : List Value} {pc : Nat} {h : aH} : ab_ias pc L' S h = (ab_ias pc L S h).map (ab_rl L') := by
  unfold ab_ias
  repeat' split
  all_goals first
    | rfl
    | (simp only [ab_bifm]; rfl)
    | (simp only [ab_bifm]; repeat' split
       all_goals rfl)
    | (simp only [ab_bifm]; congr 1; repeat' split
       all_goals first | rfl | (simp only [ab_bifm]; repeat' split
                                all_goals rfl))
    | (cases ab_cd _ _ _ <;> rfl)
theorem ab_bas_L {L L' : aL} {S : List Value} {pc : Nat} {h : aH} : ab_bas pc L' S h = (ab_bas pc L S h).map (ab_rl L') := by
  unfold ab_bas
  repeat' split
  all_goals first
    | rfl
    | (simp only [ab_bifm]; rfl)
    | (simp only [ab_bifm]; repeat' split
       all_goals rfl)
    | (simp only [ab_bifm]; congr 1; repeat' split
       all_goals first | rfl | (simp only [ab_bifm]; repeat' split
                                all_goals rfl))
    | (cases ab_cd _ _ _ <;> rfl)
theorem ab_las_L {L L' : aL} {S : List Value} {pc : Nat} {h : aH} : ab_las pc L' S h = (ab_las pc L S h).map (ab_rl L') := by
  unfold ab_las
  repeat' split
  all_goals first
    | rfl
    | (simp only [ab_bifm]; rfl)
    | (simp only [ab_bifm]; repeat' split
       all_goals rfl)
    | (simp only [ab_bifm]; congr 1; repeat' split
       all_goals first | rfl | (simp only [ab_bifm]; repeat' split
                                all_goals rfl))
    | (cases ab_cd _ _ _ <;> rfl)
theorem ab_aas_L {L L' : aL} {S : List Value} {pc : Nat} {h : aH} : ab_aas pc L' S h = (ab_aas pc L S h).map (ab_rl L') := by
  unfold ab_aas
  repeat' split
  all_goals first
    | rfl
    | (simp only [ab_bifm]; rfl)
    | (simp only [ab_bifm]; repeat' split
       all_goals rfl)
    | (simp only [ab_bifm]; congr 1; repeat' split
       all_goals first | rfl | (simp only [ab_bifm]; repeat' split
                                all_goals rfl))
    | (cases ab_cd _ _ _ <;> rfl)
theorem ab_len_L {L L' : aL} {S : List Value} {pc : Nat} {h : aH} : ab_len pc L' S h = (ab_len pc L S h).map (ab_rl L') := by
  unfold ab_len
  repeat' split
  all_goals first
    | rfl
    | (simp only [ab_bifm]; rfl)
    | (simp only [ab_bifm]; repeat' split
       all_goals rfl)
    | (simp only [ab_bifm]; congr 1; repeat' split
       all_goals first | rfl | (simp only [ab_bifm]; repeat' split
                                all_goals rfl))
    | (cases ab_cd _ _ _ <;> rfl)
theorem ab_inv_L {L L' : aL} {S : List Value} {n ci j pc : Nat} {h : aH} : ab_inv n ci j pc L' S h = (ab_inv n ci j pc L S h).map (ab_rl L') := by
  unfold ab_inv
  repeat' split
  all_goals first
    | rfl
    | (simp only [ab_bifm]; rfl)
    | (simp only [ab_bifm]; repeat' split
       all_goals rfl)
    | (simp only [ab_bifm]; congr 1; repeat' split
       all_goals first | rfl | (simp only [ab_bifm]; repeat' split
                                all_goals rfl))
    | (cases ab_cd _ _ _ <;> rfl)
theorem ab_ins_L {L L' : aL} {S : List Value} {n j pc : Nat} : ab_ins n j pc L' S = (ab_ins n j pc L S).map (ab_rl L') := by
  unfold ab_ins
  repeat' split
  all_goals first
    | rfl
    | (simp only [ab_bifm]; rfl)
    | (simp only [ab_bifm]; repeat' split
       all_goals rfl)
    | (simp only [ab_bifm]; congr 1; repeat' split
       all_goals first | rfl | (simp only [ab_bifm]; repeat' split
                                all_goals rfl))
    | (cases ab_cd _ _ _ <;> rfl)
theorem ab_inz_L {L L' : aL} {S : List Value} {n j pc : Nat} : ab_inz n j pc L' S = (ab_inz n j pc L S).map (ab_rl L') := by
  unfold ab_inz
  repeat' split
  all_goals first
    | rfl
    | (simp only [ab_bifm]; rfl)
    | (simp only [ab_bifm]; repeat' split
       all_goals rfl)
    | (simp only [ab_bifm]; congr 1; repeat' split
       all_goals first | rfl | (simp only [ab_bifm]; repeat' split
                                all_goals rfl))
    | (cases ab_cd _ _ _ <;> rfl)
theorem ab_obj_L {L L' : aL} {S : List Value} {pc : Nat} : ab_obj pc L' S = (ab_obj pc L S).map (ab_rl L') := by
  unfold ab_obj
  repeat' split
  all_goals first
    | rfl
    | (simp only [ab_bifm]; rfl)
    | (simp only [ab_bifm]; repeat' split
       all_goals rfl)
    | (simp only [ab_bifm]; congr 1; repeat' split
       all_goals first | rfl | (simp only [ab_bifm]; repeat' split
                                all_goals rfl))
    | (cases ab_cd _ _ _ <;> rfl)
theorem ab_chk_L {L L' : aL} {S : List Value} {pc : Nat} : ab_chk pc L' S = (ab_chk pc L S).map (ab_rl L') := by
  unfold ab_chk
  repeat' split
  all_goals first
    | rfl
    | (simp only [ab_bifm]; rfl)
    | (simp only [ab_bifm]; repeat' split
       all_goals rfl)
    | (simp only [ab_bifm]; congr 1; repeat' split
       all_goals first | rfl | (simp only [ab_bifm]; repeat' split
                                all_goals rfl))
    | (cases ab_cd _ _ _ <;> rfl)
