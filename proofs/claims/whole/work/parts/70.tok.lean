/-! the text: tokens as mathematics -/
def ltr (c : Nat) : Bool := decide (97 ≤ c ∧ c ≤ 122)
def skp (t : Nat → Nat) (T : Nat) : Nat → Nat → Nat
  | 0, p => p
  | m + 1, p => if p < T ∧ t p = 32 then skp t T m (p + 1) else p
def nme (t : Nat → Nat) (T : Nat) : Nat → Nat → Nat
  | 0, p => p
  | m + 1, p => if p < T ∧ ltr (t p) = true then nme t T m (p + 1) else p
def wds : List (List Nat) := [[116, 104, 97, 116], [101, 118, 101, 114, 121], [115, 111, 109, 101], [110, 111], [111, 110, 101], [109, 97, 110], [100, 111, 103], [115, 101, 101, 115], [108, 105, 107, 101, 115]]
def cds : List Nat := [3, 10, 11, 12, 13, 20, 21, 30, 31]
def mtw (t : Nat → Nat) (q e : Nat) (w : List Nat) : Bool := decide (e - q = w.length) && al (fun i => decide (t (q + i) = w.getD i 0)) w.length 0
def tcd (t : Nat → Nat) (q e : Nat) : Nat := match fr (fun k => mtw t q e (wds.getD k [])) 9 0 with
  | none => 4
  | some k => cds.getD k 0
/-- a token: its code, where it begins, where the next is looked for -/
def tok (t : Nat → Nat) (T p : Nat) : Nat × Nat × Nat :=
  if T ≤ skp t T (T - p) p then (0, skp t T (T - p) p, skp t T (T - p) p) else if t (skp t T (T - p) p) = 59 then (2, skp t T (T - p) p, skp t T (T - p) p + 1) else if ltr (t (skp t T (T - p) p)) = true then (tcd t (skp t T (T - p) p) (nme t T (T - skp t T (T - p) p) (skp t T (T - p) p)), skp t T (T - p) p, nme t T (T - skp t T (T - p) p) (skp t T (T - p) p)) else (1, skp t T (T - p) p, skp t T (T - p) p)
theorem skp_b (t : Nat → Nat) (T : Nat) : ∀ m p, p + m = T → p ≤ skp t T m p ∧ skp t T m p ≤ T ∧ (skp t T m p < T → t (skp t T m p) ≠ 32)
  | 0, p, h => by unfold skp; exact ⟨Nat.le_refl _, by omega, fun z => by omega⟩
  | m + 1, p, h => by
    unfold skp
    split
    · have := skp_b t T m (p + 1) (by omega)
      exact ⟨by omega, this.2.1, this.2.2⟩
    · next q => exact ⟨Nat.le_refl _, by omega, fun z y => q ⟨z, y⟩⟩
theorem nme_b (t : Nat → Nat) (T : Nat) : ∀ m p, p + m = T → p ≤ nme t T m p ∧ nme t T m p ≤ T
  | 0, p, h => by unfold nme; omega
  | m + 1, p, h => by
    unfold nme
    split
    · have := nme_b t T m (p + 1) (by omega)
      omega
    · omega
theorem mtw_iff {t : Nat → Nat} {q e : Nat} {w : List Nat} : mtw t q e w = true ↔ e - q = w.length ∧ ∀ i, i < w.length → t (q + i) = w.getD i 0 := by
  unfold mtw
  rw [Bool.and_eq_true, al_true]
  constructor
  · exact fun h => ⟨of_decide_eq_true h.1, fun i hi => of_decide_eq_true (h.2 i (by omega) (by omega))⟩
  · exact fun h => ⟨decide_eq_true h.1, fun i _ hi => decide_eq_true (h.2 i (by omega))⟩
theorem wds_inj : ∀ j, j < 9 → ∀ k, k < 9 → (wds.getD j []).length = (wds.getD k []).length → (∀ i, i < (wds.getD j []).length → (wds.getD j []).getD i 0 = (wds.getD k []).getD i 0) → j = k := by decide +kernel
theorem tcd_k {t : Nat → Nat} {q e k : Nat} (hk : k < 9) (h : mtw t q e (wds.getD k []) = true) : tcd t q e = cds.getD k 0 := by
  unfold tcd
  rw [fr_eq (p := fun k => mtw t q e (wds.getD k [])) hk h (fun j hj => ?_)]
  refine Bool.eq_false_iff.mpr fun hm => ?_
  rw [mtw_iff] at h hm
  have := wds_inj j (by omega) k hk (by rw [← hm.1, ← h.1]) (fun i hi => by rw [← hm.2 i hi, ← h.2 i (by rw [← h.1, hm.1]; exact hi)])
  omega
theorem tcd_no {t : Nat → Nat} {q e : Nat} (h : ∀ k, k < 9 → mtw t q e (wds.getD k []) = false) : tcd t q e = 4 := by
  unfold tcd
  rw [fr_no h]
theorem tcd_or (t : Nat → Nat) (q e : Nat) : tcd t q e = 4 ∧ (∀ k, k < 9 → mtw t q e (wds.getD k []) = false) ∨ ∃ k, k < 9 ∧ mtw t q e (wds.getD k []) = true ∧ tcd t q e = cds.getD k 0 := by
  cases h : fr (fun k => mtw t q e (wds.getD k [])) 9 0 with
  | none =>
    have hn : ∀ k, k < 9 → mtw t q e (wds.getD k []) = false := fun k hk => fr_none h k (by omega) (by omega)
    exact Or.inl ⟨tcd_no hn, hn⟩
  | some k =>
    obtain ⟨a, b, c, _⟩ := fr_some h
    exact Or.inr ⟨k, by omega, c, tcd_k (by omega) c⟩
theorem cds_lt : ∀ k, k < 9 → cds.getD k 0 < 32 ∧ 3 ≤ cds.getD k 0 := by decide
theorem tcd_lt (t : Nat → Nat) (q e : Nat) : tcd t q e < 32 ∧ 3 ≤ tcd t q e := by
  rcases tcd_or t q e with ⟨h, _⟩ | ⟨k, hk, _, h⟩
  · rw [h]; decide
  · rw [h]; exact cds_lt k hk
theorem tcd_is {t : Nat → Nat} {q e k : Nat} (hk : k < 9) : tcd t q e = cds.getD k 0 ↔ mtw t q e (wds.getD k []) = true := by
  constructor
  · intro h
    have inj : ∀ j, j < 9 → ∀ k, k < 9 → cds.getD j 0 = cds.getD k 0 → j = k := by decide
    have n4 : ∀ k, k < 9 → cds.getD k 0 ≠ 4 := by decide
    rcases tcd_or t q e with ⟨h4, _⟩ | ⟨j, hj, hm, hc⟩
    · rw [h4] at h
      exact absurd h.symm (n4 k hk)
    · have := inj j hj k hk (by rw [← hc, h])
      subst this
      exact hm
  · exact tcd_k hk
/-- both sides hold the tape -/
def tp_R (t : Nat → Nat) (T : Nat) (tN : Int32) (tB : Nat → Int32) (taped : Int32) (tape : Nat → Int32) : Prop := T ≤ 200 ∧ tN = nI T ∧ taped = nI T ∧ ∀ j, j < T → tB j = nI (t j) ∧ tape j = nI (t j) ∧ t j < 128
theorem r_tape.tp {tN : Int32} {tB : Nat → Int32} {taped : Int32} {tape : Nat → Int32} (R : r_tape tN tB taped tape) : ∃ (t : Nat → Nat) (T : Nat), tp_R t T tN tB taped tape := by
  obtain ⟨T, hT, e1, e2, hj⟩ := R
  refine ⟨fun j => (tape j).toNatClampNeg, T, hT, e1, e2, fun j h => ?_⟩
  obtain ⟨a, c, hc, e⟩ := hj j h
  have e3 : (tape j).toNatClampNeg = c := by rw [e]; exact nI_clamp (by omega)
  show tB j = nI (tape j).toNatClampNeg ∧ tape j = nI (tape j).toNatClampNeg ∧ (tape j).toNatClampNeg < 128
  rw [e3, a, e]
  exact ⟨rfl, rfl, hc⟩
theorem x_hasLetter {d p T : Nat} {t : Nat → Nat} {tN : Int32} {tB : Nat → Int32} {pF pA pT pB dN dO dV dZ : Int32} {dQ dU dW : Nat → Int32} {sN sO sV sZ : Int32} {sQ sU sW : Nat → Int32} {rN : Int32} {rP rK rF rR rT rL rQ : Nat → Int32} {mS : Int32} {mT : Nat → Int64} {mK : Nat → Int32} {mF : Nat → Int64} {mG m1 m2 : Nat → Int32} {wN : Int32} {wF : Int64} {yN : Int32} {yF : Int64} {iK eN eO eV eZ : Int32} {eQ eU eW : Nat → Int32} {eS : Int32} {eB : Int64} {jK fN fO fV fZ : Int32} {fQ fU fW : Nat → Int32} {fS : Int32} {fB : Int64} {h0N h0L : Int32} {h0C : Nat → Int32} {h1N h1L : Int32} {h1C : Nat → Int32} {h2N h2L : Int32} {h2C : Nat → Int32} {h3N h3L : Int32} {h3C : Nat → Int32} (hT : T ≤ 200) (h1 : tN = nI T) (h2 : ∀ j, j < T → tB j = nI (t j) ∧ t j < 128) (hp : p < T) : Go d 47 0 [some (.ref 1), some (.int (nI p))] [] (hX tN tB pF pA pT pB dN dO dV dZ dQ dU dW sN sO sV sZ sQ sU sW rN rP rK rF rR rT rL rQ mS mT mK mF mG m1 m2 wN wF yN yF iK eN eO eV eZ eQ eU eW eS eB jK fN fO fV fZ fQ fU fW fS fB h0N h0L h0C h1N h1L h1C h2N h2L h2C h3N h3L h3C) (some (.int (if ltr (t p) = true then 1 else 0))) (hX tN tB pF pA pT pB dN dO dV dZ dQ dU dW sN sO sV sZ sQ sU sW rN rP rK rF rR rT rL rQ mS mT mK mF mG m1 m2 wN wF yN yF iK eN eO eV eZ eQ eU eW eS eB jK fN fO fV fZ fQ fU fW fS fB h0N h0L h0C h1N h1L h1C h2N h2L h2C h3N h3L h3C) := by
  obtain ⟨b1, b2⟩ := h2 p hp
  refine b_X6_hasLetter_0 (cn (nI_pos (by omega)) (pk_le T p (fun z => by omega) (fun _ => ⟨p, rfl, by omega, pk_lt (t p) 97 (fun z => ⟨?_, rfl⟩) (fun z => ⟨p, rfl, by omega, ?_, rfl⟩) b1⟩) h1))
  · rw [if_neg (by unfold ltr; simp; omega)]
  · rw [b1]
    have h122 := nI_ltI (a := 122) (b := t p) (by decide) (by omega)
    by_cases h : t p ≤ 122
    · rw [if_pos (show ltr (t p) = true by unfold ltr; simp; omega), if_pos (fun w => by have := h122.mp w; omega)]
    · rw [if_neg (show ¬ ltr (t p) = true by unfold ltr; simp; omega), if_neg (fun w => w (h122.mpr (by omega)))]
