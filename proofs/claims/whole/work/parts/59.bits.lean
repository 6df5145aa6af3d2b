/-! words bit by bit -/
def qtB_st (gd rs : Nat → Bool) : Nat → Bool × Bool × Bool
  | 0 => (true, false, false)
  | t + 1 => ((qtB_st gd rs t).1 && (!gd t || rs t), (qtB_st gd rs t).2.1 || (gd t && rs t), (qtB_st gd rs t).2.2 || (((qtB_st gd rs t).2.1 && gd t) && rs t))
def qtB (q : Int32) (s : Bool × Bool × Bool) : Bool := if q = 0 then s.1 else if q = 1 then s.2.1 else if q = 2 then !s.2.1 else s.2.1 && !s.2.2
def evB (k : Nat) (Q : Nat → Int32) (kd : Nat → Nat → Option Nat) (en : Nat → (Nat → Nat) → Bool) : Nat → Nat → Nat → (Nat → Nat) → Bool
  | 0, a, j, g => match kd a j with
    | none => en a g
    | some _ => false
  | f + 1, a, j, g => match kd a j with
    | none => en a g
    | some x => qtB (Q x) (qtB_st (fun t => evB k Q kd en f x 0 (up g x t)) (fun t => evB k Q kd en f a (j + 1) (up g x t)) k)
def enB (n o k : Nat) (V : Int32) (U W : Nat → Int32) (F : Nat → Bool) (a : Nat) (g : Nat → Nat) : Bool := if a = 4 then F (2 * k + (bI V * k + g 0) * k + g o) else if a + 1 = o ∨ a + 1 = n then F (bI (U a) * k + g a) else F (bI (U a) * k + g a) && F (2 * k + (bI (W a) * k + g a) * k + g (a + 1))
def hvB (n o k : Nat) (V : Int32) (Q U W : Nat → Int32) (l : List Nat) (F : Nat → Bool) : Bool := evB k Q (rd_kd n o l) (enB n o k V U W F) 4 4 0 (fun _ => 0)
theorem qt_bit {i : Nat} (hi : i < 64) (gd rs : Nat → Int64) : ∀ k, (wd_bit (qt_st gd rs k).1 i, wd_bit (qt_st gd rs k).2.1 i, wd_bit (qt_st gd rs k).2.2 i) = qtB_st (fun t => wd_bit (gd t) i) (fun t => wd_bit (rs t) i) k
  | 0 => by
    rw [qt_01, qt_02, qt_03, bx_m1 hi, bx_0]
    rfl
  | k + 1 => by
    have ih := qt_bit hi gd rs k
    unfold qtB_st
    rw [← ih, qt_s1, qt_s2, qt_s3, bx_and, bx_or, bx_not hi, bx_or, bx_and, bx_or, bx_and, bx_and]
theorem qtq_bit {i : Nat} (hi : i < 64) (q : Int32) (gd rs : Nat → Int64) (k : Nat) : wd_bit (qt q (qt_st gd rs k)) i = qtB q (qtB_st (fun t => wd_bit (gd t) i) (fun t => wd_bit (rs t) i) k) := by
  rw [← qt_bit hi gd rs k]
  unfold qt qtB
  by_cases h0 : q = 0
  · rw [if_pos h0, if_pos h0]
  · rw [if_neg h0, if_neg h0]
    by_cases h1 : q = 1
    · rw [if_pos h1, if_pos h1]
    · rw [if_neg h1, if_neg h1]
      by_cases h2 : q = 2
      · rw [if_pos h2, if_pos h2, bx_not hi]
      · rw [if_neg h2, if_neg h2, bx_and, bx_not hi]
theorem ev_bit {i k : Nat} (hi : i < 64) {Q : Nat → Int32} {kd : Nat → Nat → Option Nat} {en : Nat → (Nat → Nat) → Int64} : ∀ (f a j : Nat) (g : Nat → Nat), wd_bit (ev k Q kd en f a j g) i = evB k Q kd (fun a g => wd_bit (en a g) i) f a j g
  | 0, a, j, g => by
    unfold ev evB
    cases kd a j with
    | none => rfl
    | some x => exact bx_0 i
  | f + 1, a, j, g => by
    rw [ev, evB]
    cases kd a j with
    | none => rfl
    | some x =>
      simp only
      rw [qtq_bit hi]
      have h1 : (fun t => wd_bit (ev k Q kd en f x 0 (up g x t)) i) = fun t => evB k Q kd (fun a g => wd_bit (en a g) i) f x 0 (up g x t) := funext fun t => ev_bit hi f x 0 _
      have h2 : (fun t => wd_bit (ev k Q kd en f a (j + 1) (up g x t)) i) = fun t => evB k Q kd (fun a g => wd_bit (en a g) i) f a (j + 1) (up g x t) := funext fun t => ev_bit hi f a (j + 1) _
      rw [h1, h2]
theorem en_bit {n o k i : Nat} {V : Int32} {U W : Nat → Int32} {F : Nat → Int64} : (fun a g => wd_bit (ev_en n o k V U W F a g) i) = enB n o k V U W (fun j => wd_bit (F j) i) := by
  funext a g
  unfold ev_en enB
  by_cases h4 : a = 4
  · rw [if_pos h4, if_pos h4]
  · rw [if_neg h4, if_neg h4]
    by_cases h : a + 1 = o ∨ a + 1 = n
    · rw [if_pos h, if_pos h]
    · rw [if_neg h, if_neg h, bx_and]
theorem hv_bit {n o k i : Nat} {V : Int32} {Q U W : Nat → Int32} {l : List Nat} {F : Nat → Int64} (hi : i < 64) : wd_bit (hv n o k V Q U W l F) i = hvB n o k V Q U W l (fun j => wd_bit (F j) i) := by
  unfold hv hvB
  rw [ev_bit hi, en_bit]
theorem qtB_congr {gd rs gd' rs' : Nat → Bool} : ∀ k, (∀ t, t < k → gd t = gd' t ∧ rs t = rs' t) → qtB_st gd rs k = qtB_st gd' rs' k
  | 0, _ => rfl
  | k + 1, h => by
    have ih := qtB_congr k (fun t ht => h t (by omega))
    obtain ⟨h1, h2⟩ := h k (by omega)
    unfold qtB_st
    rw [ih, h1, h2]
theorem evB_congr {k n : Nat} {Q : Nat → Int32} {kd : Nat → Nat → Option Nat} {en en' : Nat → (Nat → Nat) → Bool} (hkd : ∀ a j x, kd a j = some x → x < n) (h : ∀ a g, (a = 4 ∨ a < n) → (∀ p, g p < k) → en a g = en' a g) : ∀ (f a j : Nat) (g : Nat → Nat), (a = 4 ∨ a < n) → (∀ p, g p < k) → evB k Q kd en f a j g = evB k Q kd en' f a j g
  | 0, a, j, g, ha, hg => by
    unfold evB
    cases kd a j with
    | none => exact h a g ha hg
    | some x => rfl
  | f + 1, a, j, g, ha, hg => by
    rw [evB, evB]
    cases e : kd a j with
    | none => exact h a g ha hg
    | some x =>
      have hx := hkd a j x e
      have hu : ∀ t, t < k → ∀ p, up g x t p < k := fun t ht p => by
        unfold up
        split
        · exact ht
        · exact hg p
      simp only
      rw [qtB_congr k (fun t ht => ⟨evB_congr hkd h f x 0 _ (Or.inr hx) (hu t ht), evB_congr hkd h f a (j + 1) _ ha (hu t ht)⟩)]
theorem enB_congr {n o k : Nat} {V : Int32} {Q U W : Nat → Int32} {F F' : Nat → Bool} (hk1 : 1 ≤ k) (hk : k ≤ 4) (hS : sn_ok n o V Q U W) (hF : ∀ j, j < wd_n k → F j = F' j) {a : Nat} {g : Nat → Nat} (ha : a = 4 ∨ a < n) (hg : ∀ p, g p < k) : enB n o k V U W F a g = enB n o k V U W F' a g := by
  obtain ⟨_, hn4, ho1, hon, hV, hp⟩ := hS
  unfold enB
  by_cases h4 : a = 4
  · rw [if_pos h4, if_pos h4, hF _ (wd_verb hk1 hk (bI_eq hV).2 (hg 0) (hg o)).1]
  · rw [if_neg h4, if_neg h4]
    obtain ⟨_, hU, hW⟩ := hp a (by omega)
    rw [hF _ (wd_noun (k := k) hk1 (bI_eq hU).2 (hg a)).1]
    by_cases h : a + 1 = o ∨ a + 1 = n
    · rw [if_pos h, if_pos h]
    · rw [if_neg h, if_neg h]
      rw [if_neg h] at hW
      rw [hF _ (wd_verb hk1 hk (bI_eq hW).2 (hg a) (hg (a + 1))).1]
theorem hvB_congr {n o k : Nat} {V : Int32} {Q U W : Nat → Int32} {l : List Nat} {F F' : Nat → Bool} (hk1 : 1 ≤ k) (hk : k ≤ 4) (hS : sn_ok n o V Q U W) (hF : ∀ j, j < wd_n k → F j = F' j) : hvB n o k V Q U W l F = hvB n o k V Q U W l F' := evB_congr (n := n) (fun a j x h => (rd_kd_some h).1) (fun a g ha hg => enB_congr hk1 hk hS hF ha hg) 4 4 0 _ (Or.inl rfl) (fun _ => by omega)
/-! which bit of which word a small world is -/
def iw (w : Nat) : Nat := if w < 32 then 0 else 1 + (w - 32) / 64
def jw (w : Nat) : Nat := if w < 32 then w else (w - 32) % 64
/-- how many things, which facts -/
def sk (w : Nat) : Nat := if w < 32 then 1 else 2
def sf (w : Nat) : Nat := if w < 32 then w else w - 32
theorem low_bit : ∀ j, j < 6 → ∀ b, b < 64 → wd_bit (ab_low.getD j 0) b = b.testBit j := by decide +kernel
theorem mask_bit : ∀ b, b < 64 → wd_bit (Int64.ofNat 4294967295) b = decide (b < 32) := by decide +kernel
theorem fw_bit {w j : Nat} (hw : w < 4128) (hj : j < wd_n (sk w)) : wd_bit (fw (iw w) j) (jw w) = (sf w).testBit j := by
  unfold iw jw sf sk at *
  by_cases h : w < 32
  · rw [if_pos h] at hj
    simp only [if_pos h]
    have : wd_n 1 = 4 := rfl
    unfold fw
    rw [if_pos (by omega), low_bit j (by omega) w (by omega)]
  · rw [if_neg h] at hj
    simp only [if_neg h]
    have : wd_n 2 = 12 := rfl
    unfold fw
    by_cases h6 : j < 6
    · rw [if_pos h6, low_bit j h6 _ (by omega), show (64 : Nat) = 2 ^ 6 from rfl, Nat.testBit_mod_two_pow]
      simp [h6]
    · rw [if_neg h6, Nat.add_sub_cancel_left]
      have e : ((w - 32) / 64).testBit (j - 6) = (w - 32).testBit j := by
        have := Nat.testBit_div_two_pow (n := 6) (w - 32) (j - 6)
        rw [show j - 6 + 6 = j by omega] at this
        exact this
      rw [e]
      by_cases q : (w - 32).testBit j = true
      · rw [if_pos q, q, bx_m1 (by omega)]
      · rw [if_neg q, bx_0]
        simp at q
        exact q.symm
theorem hw_bit {n o w : Nat} {V : Int32} {Q U W : Nat → Int32} {l : List Nat} (hS : sn_ok n o V Q U W) (hw' : w < 4128) : wd_bit (hw n o V Q U W l (iw w)) (jw w) = hvB n o (sk w) V Q U W l (fun j => (sf w).testBit j) := by
  have hj : jw w < 64 := by unfold jw; split <;> omega
  have hk : kw (iw w) = sk w := by
    unfold kw iw sk
    by_cases h : w < 32
    · simp only [if_pos h]; rfl
    · simp only [if_neg h]; rw [if_neg (by omega)]
  have hk1 : 1 ≤ sk w ∧ sk w ≤ 4 := by unfold sk; split <;> omega
  have key : wd_bit (hv n o (kw (iw w)) V Q U W l (fw (iw w))) (jw w) = hvB n o (sk w) V Q U W l (fun j => (sf w).testBit j) := by
    rw [hv_bit hj, hk]
    exact hvB_congr hk1.1 hk1.2 hS (fun j hj => fw_bit hw' hj)
  unfold hw
  by_cases h0 : iw w = 0
  · rw [if_pos h0, bx_and, key, mask_bit _ hj]
    have : jw w < 32 := by
      unfold iw at h0
      unfold jw
      by_cases h : w < 32
      · rw [if_pos h]; exact h
      · rw [if_neg h] at h0; omega
    simp [this]
  · rw [if_neg h0, key]
theorem hw0_bit {n o b : Nat} {V : Int32} {Q U W : Nat → Int32} {l : List Nat} (hb : b < 64) (h32 : 32 ≤ b) : wd_bit (hw n o V Q U W l 0) b = false := by
  unfold hw
  rw [if_pos rfl, bx_and, mask_bit b hb, decide_eq_false (by omega), Bool.and_false]
