/-! runs of the small machine, told by rules -/
theorem ab_fuel {nf : Nat → Nat × Nat × Nat} {mt : Nat → Option FieldType × List (List (Option aE))} : ∀ (n d mi pc : Nat) (L : aL) (S : List Value) (h : aH) (r : Option Value × aH), ab_rn nf mt n d mi pc L S h = some r → ab_rn nf mt (n + 1) d mi pc L S h = some r
  | 0, _, _, _, _, _, _, _, hr => by cases hr
  | n + 1, d, mi, pc, L, S, h, r, hr => by
    rw [ab_rn] at hr ⊢
    cases hlk : ab_look (mt mi).2 pc with
    | none => rw [hlk] at hr; cases hr
    | some en =>
      rw [hlk] at hr
      simp only at hr ⊢
      cases hst : ab_stp nf (mt mi).1 en pc L S h with
      | none => rw [hst] at hr; cases hr
      | some q =>
        rw [hst] at hr
        obtain ⟨⟨pc', L', S'⟩, w⟩ | ⟨⟨pc', L', S'⟩, x⟩ | v | ⟨⟨pc', L', S'⟩, j, As⟩ := q
        · exact ab_fuel n _ _ _ _ _ _ _ hr
        · exact ab_fuel n _ _ _ _ _ _ _ hr
        · exact hr
        · cases d with
          | zero => cases hr
          | succ d' =>
            obtain ⟨b1, hr1⟩ := ab_bif hr
            simp only [b1]
            show (match ab_rn nf mt _ _ j 0 (ab_ent (nf j).2.2 As) [] h with
              | none => none
              | some (v, h') => _) = _
            cases hc : ab_rn nf mt n d' j 0 (ab_ent (nf j).2.2 As) [] h with
            | none => rw [hc] at hr1; cases hr1
            | some q =>
              rw [hc] at hr1
              rw [ab_fuel n _ _ _ _ _ _ _ hc]
              obtain ⟨v1, h1⟩ := q
              obtain ⟨b2, hr2⟩ := ab_bif hr1
              simp only [b2]
              exact ab_fuel n _ _ _ _ _ _ _ hr2
theorem ab_fuels {nf : Nat → Nat × Nat × Nat} {mt : Nat → Option FieldType × List (List (Option aE))} {n d mi pc : Nat} {L : aL} {S : List Value} {h : aH} {r : Option Value × aH} (hr : ab_rn nf mt n d mi pc L S h = some r) : ∀ k, ab_rn nf mt (n + k) d mi pc L S h = some r
  | 0 => hr
  | k + 1 => ab_fuel _ _ _ _ _ _ _ _ (ab_fuels hr k)
theorem ab_deep {nf : Nat → Nat × Nat × Nat} {mt : Nat → Option FieldType × List (List (Option aE))} : ∀ (n d mi pc : Nat) (L : aL) (S : List Value) (h : aH) (r : Option Value × aH), ab_rn nf mt n d mi pc L S h = some r → ab_rn nf mt n (d + 1) mi pc L S h = some r
  | 0, _, _, _, _, _, _, _, hr => by cases hr
  | n + 1, d, mi, pc, L, S, h, r, hr => by
    rw [ab_rn] at hr ⊢
    cases hlk : ab_look (mt mi).2 pc with
    | none => rw [hlk] at hr; cases hr
    | some en =>
      rw [hlk] at hr
      simp only at hr ⊢
      cases hst : ab_stp nf (mt mi).1 en pc L S h with
      | none => rw [hst] at hr; cases hr
      | some q =>
        rw [hst] at hr
        obtain ⟨⟨pc', L', S'⟩, w⟩ | ⟨⟨pc', L', S'⟩, x⟩ | v | ⟨⟨pc', L', S'⟩, j, As⟩ := q
        · exact ab_deep n _ _ _ _ _ _ _ hr
        · exact ab_deep n _ _ _ _ _ _ _ hr
        · exact hr
        · cases d with
          | zero => cases hr
          | succ d' =>
            obtain ⟨b1, hr1⟩ := ab_bif hr
            simp only [b1]
            show (match ab_rn nf mt _ _ j 0 (ab_ent (nf j).2.2 As) [] h with
              | none => none
              | some (v, h') => _) = _
            cases hc : ab_rn nf mt n d' j 0 (ab_ent (nf j).2.2 As) [] h with
            | none => rw [hc] at hr1; cases hr1
            | some q =>
              rw [hc] at hr1
              rw [ab_deep n _ _ _ _ _ _ _ hc]
              obtain ⟨v1, h1⟩ := q
              obtain ⟨b2, hr2⟩ := ab_bif hr1
              simp only [b2]
              exact ab_deep n _ _ _ _ _ _ _ hr2
/-- from here on the method mi comes to its end with the answer v and the cells h' -/
def Go (d mi pc : Nat) (L : aL) (S : List Value) (h : aH) (v : Option Value) (h' : aH) : Prop := ∃ n, ab_rn ab_nf ab_mt n d mi pc L S h = some (v, h')
section GO
variable {d mi pc : Nat} {L : aL} {S R : List Value} {h h' : aH} {v : Option Value}
theorem Go.deep (g : Go d mi pc L S h v h') : Go (d + 1) mi pc L S h v h' := by
  obtain ⟨n, hn⟩ := g
  exact ⟨n, ab_deep _ _ _ _ _ _ _ _ hn⟩
def ab_mv (mi : Nat) : Nat → Nat × aL × List Value × aH → Option (Nat × aL × List Value × aH)
  | 0, st => some st
  | k + 1, (pc, L, S, h) => match ab_look (ab_mt mi).2 pc with
    | none => none
    | some en => match ab_stp ab_nf (ab_mt mi).1 en pc L S h with
      | some (.inl ((pc', L', S'), w)) => ab_mv mi k (pc', L', S', ab_set h w)
      | _ => none
theorem Go.s1 {en : aE} {pc' : Nat} {L' : aL} {S' : List Value} {w : Option (Nat × va_E)} (hl : ab_look (ab_mt mi).2 pc = some en) (hs : ab_stp ab_nf (ab_mt mi).1 en pc L S h = some (.inl ((pc', L', S'), w))) (g : Go d mi pc' L' S' (ab_set h w) v h') : Go d mi pc L S h v h' := by
  obtain ⟨n, hn⟩ := g
  exact ⟨n + 1, by rw [ab_rn, hl]; simp only [hs]; exact hn⟩
theorem Go.mv : ∀ (k : Nat) {pc : Nat} {L : aL} {S : List Value} {h : aH} {pc' : Nat} {L' : aL} {S' : List Value} {h1 : aH} (_ : ab_mv mi k (pc, L, S, h) = some (pc', L', S', h1)) (_ : Go d mi pc' L' S' h1 v h'), Go d mi pc L S h v h'
  | 0, _, _, _, _, _, _, _, _, hk, g => by
    cases hk
    exact g
  | k + 1, pc, L, S, h, pc', L', S', h1, hk, g => by
    unfold ab_mv at hk
    cases hl : ab_look (ab_mt mi).2 pc with
    | none => rw [hl] at hk; cases hk
    | some en =>
      rw [hl] at hk
      simp only at hk
      split at hk
      · next hs => exact Go.s1 hl hs (Go.mv k hk g)
      · cases hk
theorem Go.rt {en : aE} {r : Option Value} (hl : ab_look (ab_mt mi).2 pc = some en) (hs : ab_stp ab_nf (ab_mt mi).1 en pc L S h = some (.inr (.inr (.inl r)))) (hv : r = v) (hh : h = h') : Go d mi pc L S h v h' := by
  subst hv; subst hh
  exact ⟨1, by rw [ab_rn, hl]; simp only [hs]⟩
theorem Go.ca {en : aE} {pc' j : Nat} {L' : aL} {S' As : List Value} {rv : Option Value} {h1 : aH} (hl : ab_look (ab_mt mi).2 pc = some en) (hs : ab_stp ab_nf (ab_mt mi).1 en pc L S h = some (.inr (.inr (.inr ((pc', L', S'), j, As))))) (hn : Nat.ble (ab_slots As).length (ab_nf j).2.2 = true) (hlen : h1.length = h.length)
    (gc : Go d j 0 (ab_ent (ab_nf j).2.2 As) [] h rv h1) (g : Go (d + 1) mi pc' L' (rv.toList ++ S') h1 v h') : Go (d + 1) mi pc L S h v h' := by
  obtain ⟨n1, g1⟩ := gc
  obtain ⟨n2, g2⟩ := g
  refine ⟨n1 + n2 + 1, ?_⟩
  rw [ab_rn, hl]
  simp only [hs, hn]
  have e1 := ab_fuels g1 n2
  have e2 := ab_fuels g2 n1
  rw [Nat.add_comm n2 n1] at e2
  show (match ab_rn ab_nf ab_mt (n1 + n2) d j 0 (ab_ent (ab_nf j).2.2 As) [] h with
    | none => none
    | some (v, h') => _) = _
  rw [e1]
  simp only [hlen]
  have e3 : Nat.beq h.length h.length = true := Nat.beq_refl _
  rw [e3, Bool.true_or]
  exact e2
/-- a number on the stack by another name -/
theorem Go.tp {x : Int32} (y : Int32) (e : x = y) (g : Go d mi pc L (.int y :: R) h v h') : Go d mi pc L (.int x :: R) h v h' := by rw [e]; exact g
theorem Go.ic {c : ClassFile.Cond} {o : Int} {ln t : Nat} {rs : List Nat} {x y : Int32} (hl : ab_look (ab_mt mi).2 pc = some (.if_icmp c o, ln, t :: rs)) (gt : ab_cd c x y = true → Go d mi t L R h v h') (gf : ab_cd c x y = false → Go d mi (pc + 3) L R h v h') : Go d mi pc L (.int y :: .int x :: R) h v h' := by
  cases hc : ab_cd c x y with
  | true =>
    refine Go.s1 (pc' := t) (L' := L) (S' := R) (w := none) hl ?_ (gt hc)
    show ab_br c t (pc + 3) L (.int y :: .int x :: R) = _
    simp [ab_br, hc, ab_go]
  | false =>
    refine Go.s1 (pc' := pc + 3) (L' := L) (S' := R) (w := none) hl ?_ (gf hc)
    show ab_br c t (pc + 3) L (.int y :: .int x :: R) = _
    simp [ab_br, hc, ab_go]
theorem Go.iz {c : ClassFile.Cond} {o : Int} {ln t : Nat} {rs : List Nat} {x : Int32} (hl : ab_look (ab_mt mi).2 pc = some (.ifCond c o, ln, t :: rs)) (gt : ab_cd c x 0 = true → Go d mi t L R h v h') (gf : ab_cd c x 0 = false → Go d mi (pc + 3) L R h v h') : Go d mi pc L (.int x :: R) h v h' := by
  cases hc : ab_cd c x 0 with
  | true =>
    refine Go.s1 (pc' := t) (L' := L) (S' := R) (w := none) hl ?_ (gt hc)
    show ab_bz c t (pc + 3) L (.int x :: R) = _
    simp [ab_bz, hc, ab_go]
  | false =>
    refine Go.s1 (pc' := pc + 3) (L' := L) (S' := R) (w := none) hl ?_ (gf hc)
    show ab_bz c t (pc + 3) L (.int x :: R) = _
    simp [ab_bz, hc, ab_go]
variable {o : Int} {ln t n a k : Nat} {rs : List Nat} {x y i : Int32}
theorem Go.ceq (hl : ab_look (ab_mt mi).2 pc = some (.if_icmp .eq o, ln, t :: rs)) (g : (x = y → Go d mi t L R h v h') ∧ (¬ x = y → Go d mi (pc + 3) L R h v h')) : Go d mi pc L (.int y :: .int x :: R) h v h' := Go.ic hl (fun c => g.1 (of_decide_eq_true c)) (fun c => g.2 (of_decide_eq_false c))
theorem Go.cne (hl : ab_look (ab_mt mi).2 pc = some (.if_icmp .ne o, ln, t :: rs)) (g : (¬ x = y → Go d mi t L R h v h') ∧ (x = y → Go d mi (pc + 3) L R h v h')) : Go d mi pc L (.int y :: .int x :: R) h v h' := Go.ic hl (fun c => g.1 (by simpa [ab_cd] using c)) (fun c => g.2 (by simpa [ab_cd] using c))
theorem Go.clt (hl : ab_look (ab_mt mi).2 pc = some (.if_icmp .lt o, ln, t :: rs)) (g : (x < y → Go d mi t L R h v h') ∧ (¬ x < y → Go d mi (pc + 3) L R h v h')) : Go d mi pc L (.int y :: .int x :: R) h v h' := Go.ic hl (fun c => g.1 (of_decide_eq_true c)) (fun c => g.2 (of_decide_eq_false c))
theorem Go.cge (hl : ab_look (ab_mt mi).2 pc = some (.if_icmp .ge o, ln, t :: rs)) (g : (y ≤ x → Go d mi t L R h v h') ∧ (¬ y ≤ x → Go d mi (pc + 3) L R h v h')) : Go d mi pc L (.int y :: .int x :: R) h v h' := Go.ic hl (fun c => g.1 (of_decide_eq_true c)) (fun c => g.2 (of_decide_eq_false c))
theorem Go.cgt (hl : ab_look (ab_mt mi).2 pc = some (.if_icmp .gt o, ln, t :: rs)) (g : (y < x → Go d mi t L R h v h') ∧ (¬ y < x → Go d mi (pc + 3) L R h v h')) : Go d mi pc L (.int y :: .int x :: R) h v h' := Go.ic hl (fun c => g.1 (of_decide_eq_true c)) (fun c => g.2 (of_decide_eq_false c))
theorem Go.cle (hl : ab_look (ab_mt mi).2 pc = some (.if_icmp .le o, ln, t :: rs)) (g : (x ≤ y → Go d mi t L R h v h') ∧ (¬ x ≤ y → Go d mi (pc + 3) L R h v h')) : Go d mi pc L (.int y :: .int x :: R) h v h' := Go.ic hl (fun c => g.1 (of_decide_eq_true c)) (fun c => g.2 (of_decide_eq_false c))
theorem Go.zeq (hl : ab_look (ab_mt mi).2 pc = some (.ifCond .eq o, ln, t :: rs)) (g : (x = 0 → Go d mi t L R h v h') ∧ (¬ x = 0 → Go d mi (pc + 3) L R h v h')) : Go d mi pc L (.int x :: R) h v h' := Go.iz hl (fun c => g.1 (of_decide_eq_true c)) (fun c => g.2 (of_decide_eq_false c))
theorem Go.zne (hl : ab_look (ab_mt mi).2 pc = some (.ifCond .ne o, ln, t :: rs)) (g : (¬ x = 0 → Go d mi t L R h v h') ∧ (x = 0 → Go d mi (pc + 3) L R h v h')) : Go d mi pc L (.int x :: R) h v h' := Go.iz hl (fun c => g.1 (by simpa [ab_cd] using c)) (fun c => g.2 (by simpa [ab_cd] using c))
theorem Go.zlt (hl : ab_look (ab_mt mi).2 pc = some (.ifCond .lt o, ln, t :: rs)) (g : (x < 0 → Go d mi t L R h v h') ∧ (¬ x < 0 → Go d mi (pc + 3) L R h v h')) : Go d mi pc L (.int x :: R) h v h' := Go.iz hl (fun c => g.1 (of_decide_eq_true c)) (fun c => g.2 (of_decide_eq_false c))
theorem Go.zge (hl : ab_look (ab_mt mi).2 pc = some (.ifCond .ge o, ln, t :: rs)) (g : (0 ≤ x → Go d mi t L R h v h') ∧ (¬ 0 ≤ x → Go d mi (pc + 3) L R h v h')) : Go d mi pc L (.int x :: R) h v h' := Go.iz hl (fun c => g.1 (of_decide_eq_true c)) (fun c => g.2 (of_decide_eq_false c))
theorem Go.zgt (hl : ab_look (ab_mt mi).2 pc = some (.ifCond .gt o, ln, t :: rs)) (g : (0 < x → Go d mi t L R h v h') ∧ (¬ 0 < x → Go d mi (pc + 3) L R h v h')) : Go d mi pc L (.int x :: R) h v h' := Go.iz hl (fun c => g.1 (of_decide_eq_true c)) (fun c => g.2 (of_decide_eq_false c))
theorem Go.zle (hl : ab_look (ab_mt mi).2 pc = some (.ifCond .le o, ln, t :: rs)) (g : (x ≤ 0 → Go d mi t L R h v h') ∧ (¬ x ≤ 0 → Go d mi (pc + 3) L R h v h')) : Go d mi pc L (.int x :: R) h v h' := Go.iz hl (fun c => g.1 (of_decide_eq_true c)) (fun c => g.2 (of_decide_eq_false c))
theorem ab_in_nI {k n : Nat} (hk : k < n) (hn : n < 2 ^ 31) : ab_in (nI k) n = true := by
  have h1 := nI_pos (n := k) (by omega)
  have h2 := nI_clamp (n := k) (by omega)
  have h3 : Nat.blt k n = true := Nat.ble_eq_true_of_le hk
  simp [ab_in, h1, h2, h3]
theorem Go.iald {f : Nat → Int32} (hl : ab_look (ab_mt mi).2 pc = some (.iaload, ln, rs)) (hh : h[a]? = some (.inl (1, n, .inl f))) (hn : n < 2 ^ 31) (g : ∃ k : Nat, i = nI k ∧ k < n ∧ Go d mi (pc + 1) L (.int (f k) :: R) h v h') : Go d mi pc L (.int i :: .ref a :: R) h v h' := by
  obtain ⟨k, rfl, hk, g⟩ := g
  refine Go.s1 (w := none) hl ?_ g
  simp [ab_stp, ab_ial, hh, ab_in_nI hk hn, ab_go, nI_clamp (show k < 2 ^ 31 by omega)]
theorem Go.bald {f : Nat → Int32} (hl : ab_look (ab_mt mi).2 pc = some (.baload, ln, rs)) (hh : h[a]? = some (.inl (0, n, .inl f))) (hn : n < 2 ^ 31) (g : ∃ k : Nat, i = nI k ∧ k < n ∧ Go d mi (pc + 1) L (.int (f k) :: R) h v h') : Go d mi pc L (.int i :: .ref a :: R) h v h' := by
  obtain ⟨k, rfl, hk, g⟩ := g
  refine Go.s1 (w := none) hl ?_ g
  simp [ab_stp, ab_bal, hh, ab_in_nI hk hn, ab_go, nI_clamp (show k < 2 ^ 31 by omega)]
theorem Go.zald {f : Nat → Int32} (hl : ab_look (ab_mt mi).2 pc = some (.baload, ln, rs)) (hh : h[a]? = some (.inl (3, n, .inl f))) (hn : n < 2 ^ 31) (g : ∃ k : Nat, i = nI k ∧ k < n ∧ Go d mi (pc + 1) L (.int (f k) :: R) h v h') : Go d mi pc L (.int i :: .ref a :: R) h v h' := by
  obtain ⟨k, rfl, hk, g⟩ := g
  refine Go.s1 (w := none) hl ?_ g
  simp [ab_stp, ab_bal, hh, ab_in_nI hk hn, ab_go, nI_clamp (show k < 2 ^ 31 by omega)]
theorem Go.lald {f : Nat → Int64} (hl : ab_look (ab_mt mi).2 pc = some (.laload, ln, rs)) (hh : h[a]? = some (.inl (2, n, .inr (.inl f)))) (hn : n < 2 ^ 31) (g : ∃ k : Nat, i = nI k ∧ k < n ∧ Go d mi (pc + 1) L (.long (f k) :: R) h v h') : Go d mi pc L (.int i :: .ref a :: R) h v h' := by
  obtain ⟨k, rfl, hk, g⟩ := g
  refine Go.s1 (w := none) hl ?_ g
  simp [ab_stp, ab_lal, hh, ab_in_nI hk hn, ab_go, nI_clamp (show k < 2 ^ 31 by omega)]
theorem Go.kald (hl : ab_look (ab_mt mi).2 pc = some (.laload, ln, rs)) (hh : h[950]? = none) (g : ∃ k : Nat, i = nI k ∧ k < 6 ∧ Go d mi (pc + 1) L (.long (ab_low.getD k 0) :: R) h v h') : Go d mi pc L (.int i :: .ref 950 :: R) h v h' := by
  obtain ⟨k, rfl, hk, g⟩ := g
  refine Go.s1 (w := none) hl ?_ g
  simp [ab_stp, ab_lal, hh, ab_in_nI hk (by decide : 6 < 2 ^ 31), ab_go, nI_clamp (show k < 2 ^ 31 by omega)]
theorem Go.iast {f : Nat → Int32} (hl : ab_look (ab_mt mi).2 pc = some (.iastore, ln, rs)) (hh : h[a]? = some (.inl (1, n, .inl f))) (hn : n < 2 ^ 31) (g : ∃ k : Nat, i = nI k ∧ k < n ∧ Go d mi (pc + 1) L R (h.set a (.inl (1, n, .inl (upd f k x)))) v h') : Go d mi pc L (.int x :: .int i :: .ref a :: R) h v h' := by
  obtain ⟨k, rfl, hk, g⟩ := g
  refine Go.s1 (w := some (a, .inl (1, n, .inl (upd f k x)))) hl ?_ g
  simp [ab_stp, ab_ias, hh, ab_in_nI hk hn, ab_wr, nI_clamp (show k < 2 ^ 31 by omega)]
theorem Go.bast {f : Nat → Int32} (hl : ab_look (ab_mt mi).2 pc = some (.bastore, ln, rs)) (hh : h[a]? = some (.inl (0, n, .inl f))) (hn : n < 2 ^ 31) (g : ∃ k : Nat, i = nI k ∧ k < n ∧ Go d mi (pc + 1) L R (h.set a (.inl (0, n, .inl (upd f k (vp_nar .byte x))))) v h') : Go d mi pc L (.int x :: .int i :: .ref a :: R) h v h' := by
  obtain ⟨k, rfl, hk, g⟩ := g
  refine Go.s1 (w := some (a, .inl (0, n, .inl (upd f k (vp_nar .byte x))))) hl ?_ g
  simp [ab_stp, ab_bas, hh, ab_in_nI hk hn, ab_wr, nI_clamp (show k < 2 ^ 31 by omega)]
theorem Go.zast {f : Nat → Int32} (hl : ab_look (ab_mt mi).2 pc = some (.bastore, ln, rs)) (hh : h[a]? = some (.inl (3, n, .inl f))) (hn : n < 2 ^ 31) (g : ∃ k : Nat, i = nI k ∧ k < n ∧ Go d mi (pc + 1) L R (h.set a (.inl (3, n, .inl (upd f k (vp_nar .boolean x))))) v h') : Go d mi pc L (.int x :: .int i :: .ref a :: R) h v h' := by
  obtain ⟨k, rfl, hk, g⟩ := g
  refine Go.s1 (w := some (a, .inl (3, n, .inl (upd f k (vp_nar .boolean x))))) hl ?_ g
  simp [ab_stp, ab_bas, hh, ab_in_nI hk hn, ab_wr, nI_clamp (show k < 2 ^ 31 by omega)]
theorem Go.last {f : Nat → Int64} {z : Int64} (hl : ab_look (ab_mt mi).2 pc = some (.lastore, ln, rs)) (hh : h[a]? = some (.inl (2, n, .inr (.inl f)))) (hn : n < 2 ^ 31) (g : ∃ k : Nat, i = nI k ∧ k < n ∧ Go d mi (pc + 1) L R (h.set a (.inl (2, n, .inr (.inl (vp_updL f k z))))) v h') : Go d mi pc L (.long z :: .int i :: .ref a :: R) h v h' := by
  obtain ⟨k, rfl, hk, g⟩ := g
  refine Go.s1 (w := some (a, .inl (2, n, .inr (.inl (vp_updL f k z))))) hl ?_ g
  simp [ab_stp, ab_las, hh, ab_in_nI hk hn, ab_wr, nI_clamp (show k < 2 ^ 31 by omega)]
theorem Go.idiv (hl : ab_look (ab_mt mi).2 pc = some (.idiv, ln, rs)) (g : ¬ y = 0 ∧ Go d mi (pc + 1) L (.int (x / y) :: R) h v h') : Go d mi pc L (.int y :: .int x :: R) h v h' := by
  refine Go.s1 (w := none) hl ?_ g.2
  simp [ab_stp, ab_dv, g.1, ab_go]
theorem Go.irem (hl : ab_look (ab_mt mi).2 pc = some (.irem, ln, rs)) (g : ¬ y = 0 ∧ Go d mi (pc + 1) L (.int (x - x / y * y) :: R) h v h') : Go d mi pc L (.int y :: .int x :: R) h v h' := by
  refine Go.s1 (w := none) hl ?_ g.2
  simp [ab_stp, ab_dv, g.1, ab_go]
theorem Go.rz (hl : ab_look (ab_mt mi).2 pc = some (.ireturn, ln, rs)) (hb : (ab_mt mi).1 = some .boolean) (g : (x = 0 ∨ x = 1) ∧ some (.int x) = v ∧ h = h') : Go d mi pc L [.int x] h v h' := by
  obtain ⟨hx, rfl, rfl⟩ := g
  refine Go.rt hl ?_ rfl rfl
  show ab_reti (ab_mt mi).1 _ = _
  rw [hb]
  rcases hx with rfl | rfl <;> rfl
end GO
