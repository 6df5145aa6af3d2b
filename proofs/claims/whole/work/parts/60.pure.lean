/-! lowest bits; the first world; how many worlds -/
theorem fr_some {p : Nat → Bool} : ∀ {m i k : Nat}, fr p m i = some k → i ≤ k ∧ k < i + m ∧ p k = true ∧ ∀ v, i ≤ v → v < k → p v = false
  | 0, i, k, h => by cases h
  | m + 1, i, k, h => by
    unfold fr at h
    split at h
    · next q => cases h; exact ⟨Nat.le_refl _, by omega, q, fun v h1 h2 => by omega⟩
    · next q =>
      obtain ⟨a, b, c, e⟩ := fr_some h
      refine ⟨by omega, by omega, c, fun v h1 h2 => ?_⟩
      by_cases z : v = i
      · subst z; simpa using q
      · exact e v (by omega) h2
theorem fr_none {p : Nat → Bool} : ∀ {m i : Nat}, fr p m i = none → ∀ v, i ≤ v → v < i + m → p v = false
  | 0, i, _, v, h1, h2 => by omega
  | m + 1, i, h, v, h1, h2 => by
    unfold fr at h
    split at h
    · cases h
    · next q =>
      by_cases z : v = i
      · subst z; simpa using q
      · exact fr_none h v (by omega) (by omega)
theorem fr_eq {p : Nat → Bool} {m k : Nat} (hk : k < m) (hp : p k = true) (hl : ∀ v, v < k → p v = false) : fr p m 0 = some k := by
  cases h : fr p m 0 with
  | none => have := fr_none h k (by omega) (by omega); rw [hp] at this; cases this
  | some z =>
    obtain ⟨a, b, c, e⟩ := fr_some h
    by_cases h1 : z < k
    · rw [hl z h1] at c; cases c
    · by_cases h2 : k < z
      · have := e k (by omega) h2; rw [hp] at this; cases this
      · have : z = k := by omega
        rw [this]
theorem fr_no {p : Nat → Bool} {m : Nat} (hl : ∀ v, v < m → p v = false) : fr p m 0 = none := by
  cases h : fr p m 0 with
  | none => rfl
  | some z =>
    obtain ⟨a, b, c, e⟩ := fr_some h
    rw [hl z (by omega)] at c; cases c
theorem bx_neg (x : Int64) (i : Nat) (hi : i < 64) : wd_bit (-x) i = (wd_bit x i ^^ decide (∃ j, j < i ∧ wd_bit x j = true)) := by
  unfold wd_bit
  have h : (-x).toBitVec = -x.toBitVec := rfl
  rw [h, BitVec.getLsbD_neg]
  simp [hi]
theorem low_of {x : Int64} (h : x ≠ 0) : ∃ j, j < 64 ∧ wd_bit x j = true ∧ ∀ i, i < j → wd_bit x i = false := by
  cases e : fr (fun i => wd_bit x i) 64 0 with
  | none =>
    refine absurd (bx_ext fun i hi => ?_) h
    rw [bx_0]
    exact fr_none e i (by omega) (by omega)
  | some j =>
    obtain ⟨a, b, c, d⟩ := fr_some e
    exact ⟨j, by omega, c, fun i hi => d i (by omega) hi⟩
theorem ct_lt (j : Nat) : ∀ m, ct (fun i => decide (i < j)) m = if m ≤ j then m else j
  | 0 => by rw [if_pos (Nat.zero_le _)]; rfl
  | m + 1 => by
    unfold ct
    rw [ct_lt j m]
    by_cases h : m < j
    · simp [h]; rw [if_pos (by omega), if_pos (by omega)]
    · simp [h]; rw [if_neg (show ¬ m + 1 ≤ j by omega)]; split <;> omega
theorem low_ct {x : Int64} {j : Nat} (hj : j < 64) (h1 : wd_bit x j = true) (h2 : ∀ i, i < j → wd_bit x i = false) : ct (fun i => wd_bit ((x &&& (-x)) - (1 : Int64)) i) 64 = j := by
  have e1 : (x &&& (-x)) = (1 : Int64) <<< ((nI j).toInt64 &&& 63) := bx_ext fun i hi => by
    rw [bx_and, bx_neg x i hi, bx_bit1 hj]
    by_cases a : i = j
    · subst a
      have : ¬ ∃ k, k < i ∧ wd_bit x k = true := fun ⟨k, k1, k2⟩ => by rw [h2 k k1] at k2; cases k2
      rw [h1, decide_eq_false this]; simp
    · rw [decide_eq_false a]
      by_cases b : i < j
      · rw [h2 i b]; rfl
      · have : ∃ k, k < i ∧ wd_bit x k = true := ⟨j, by omega, h1⟩
        rw [decide_eq_true this]
        cases wd_bit x i <;> rfl
  have e2 : un (x &&& (-x)) = 2 ^ j := by
    rw [e1]
    unfold un
    rw [bx_one hj, BitVec.toNat_twoPow, Nat.mod_eq_of_lt (Nat.pow_lt_pow_right (by decide) hj)]
  have e3 : un (1 : Int64) = 1 := by decide +kernel
  have e4 : un ((x &&& (-x)) - (1 : Int64)) = 2 ^ j - 1 := by
    rw [un_sub (by rw [e2, e3]; exact Nat.pow_pos (by decide)), e2, e3]
  have e5 : (fun i => wd_bit ((x &&& (-x)) - (1 : Int64)) i) = fun i => decide (i < j) := by
    funext i
    rw [un_bit, e4, Nat.testBit_two_pow_sub_one]
  rw [e5, ct_lt, if_neg (by omega)]
/-- bit of a small world in words -/
def sb (H : Nat → Int64) (w : Nat) : Bool := wd_bit (H (iw w)) (jw w)
/-- the place of a word's bit -/
def bw (i j : Nat) : Nat := if i = 0 then j else 32 + (i - 1) * 64 + j
theorem bw_ij {i j : Nat} (hi : i < 65) (hj : j < 64) (h0 : i = 0 → j < 32) : bw i j < 4128 ∧ iw (bw i j) = i ∧ jw (bw i j) = j := by
  unfold bw iw jw
  by_cases h : i = 0
  · have := h0 h
    subst h
    simp only [if_true, if_pos this]
    exact ⟨by omega, trivial, trivial⟩
  · simp only [if_neg h]
    have a : ¬ (32 + (i - 1) * 64 + j < 32) := by omega
    simp only [if_neg a]
    exact ⟨by omega, by omega, by omega⟩
theorem iw_lt {w : Nat} (hw : w < 4128) : iw w < 65 ∧ jw w < 64 := by
  unfold iw jw
  by_cases h : w < 32
  · simp only [if_pos h]; omega
  · simp only [if_neg h]; omega
theorem iw_mono {v w : Nat} (h : v < w) : iw v < iw w ∨ (iw v = iw w ∧ jw v < jw w) := by
  unfold iw jw
  by_cases a : v < 32
  · by_cases b : w < 32
    · right; simp only [if_pos a, if_pos b]; exact ⟨trivial, h⟩
    · simp only [if_pos a, if_neg b]; omega
  · have b : ¬ w < 32 := by omega
    simp only [if_neg a, if_neg b]; omega
/-- the first small world of one and not of another -/
theorem first_only {A B : Nat → Int64} (hA : ∀ b, b < 64 → 32 ≤ b → wd_bit (A 0) b = false) : (match fr (fun i => !decide (A i &&& (B i ^^^ (Int64.ofNat 18446744073709551615)) = 0)) 65 0 with | none => (-4 : Int32) | some i => nI (bw i (ct (fun z => wd_bit (((A i &&& (B i ^^^ (Int64.ofNat 18446744073709551615))) &&& (-(A i &&& (B i ^^^ (Int64.ofNat 18446744073709551615))))) - (1 : Int64)) z) 64))) = (match fr (fun w => sb A w && !sb B w) 4128 0 with | none => -4 | some w => nI w) := by
  have bit : ∀ i j, j < 64 → wd_bit (A i &&& (B i ^^^ (Int64.ofNat 18446744073709551615))) j = (wd_bit (A i) j && !wd_bit (B i) j) := fun i j hj => by rw [bx_and, bx_not hj]
  cases e : fr (fun i => !decide (A i &&& (B i ^^^ (Int64.ofNat 18446744073709551615)) = 0)) 65 0 with
  | none =>
    rw [fr_no (p := fun w => sb A w && !sb B w) (fun v hv => ?_)]
    have := fr_none e (iw v) (by omega) (by have := (iw_lt hv).1; omega)
    simp only [Bool.not_eq_false', decide_eq_true_eq] at this
    unfold sb
    rw [← bit _ _ (iw_lt hv).2, this, bx_0]
  | some i =>
    obtain ⟨a, b, c, f⟩ := fr_some e
    simp only [Bool.not_eq_true', decide_eq_false_iff_not] at c
    obtain ⟨j, j1, j2, j3⟩ := low_of c
    have l := low_ct j1 j2 j3
    have h0 : i = 0 → j < 32 := fun z => by
      subst z
      refine Nat.lt_of_not_le fun w => ?_
      rw [bit _ _ j1, hA j j1 w] at j2
      cases j2
    obtain ⟨b1, b2, b3⟩ := bw_ij (by omega) j1 h0
    rw [fr_eq (p := fun w => sb A w && !sb B w) (k := bw i j) b1 ?_ ?_]
    · simp only [l]
    · unfold sb
      rw [b2, b3, ← bit _ _ j1, j2]
    · intro v hv
      have hv' : v < 4128 := by omega
      unfold sb
      rw [← bit _ _ (iw_lt hv').2]
      rcases iw_mono hv with q | ⟨q1, q2⟩
      · rw [b2] at q
        have := f (iw v) (by omega) q
        simp only [Bool.not_eq_false', decide_eq_true_eq] at this
        rw [this, bx_0]
      · rw [b2] at q1
        rw [b3] at q2
        rw [q1]
        exact j3 _ q2
def sumw (f : Nat → Nat) : Nat → Nat
  | 0 => 0
  | i + 1 => sumw f i + f i
theorem ct_zero {p : Nat → Bool} : ∀ n, (∀ i, i < n → p i = false) → ct p n = 0
  | 0, _ => rfl
  | n + 1, h => by
    unfold ct
    rw [ct_zero n (fun i hi => h i (by omega)), h n (by omega)]
    rfl
theorem many_ct {H : Nat → Int64} (h0 : ∀ b, b < 64 → 32 ≤ b → wd_bit (H 0) b = false) : ∀ m, m ≤ 64 → ct (fun w => sb H w) (64 * m + 32) = sumw (fun i => ct (fun j => wd_bit (H i) j) 64) (m + 1)
  | 0, _ => by
    show ct (fun w => sb H w) 32 = 0 + ct (fun j => wd_bit (H 0) j) 64
    rw [show (64 : Nat) = 32 + 32 from rfl, ct_shift, ct_zero (p := fun i => wd_bit (H 0) (i + 32)) 32 (fun i hi => h0 _ (by omega) (by omega)), Nat.zero_add, Nat.add_zero]
    refine ct_congr 32 (fun i hi => ?_)
    unfold sb iw jw
    rw [if_pos hi, if_pos hi]
  | m + 1, hm => by
    have ih := many_ct h0 m (by omega)
    show _ = sumw (fun i => ct (fun j => wd_bit (H i) j) 64) (m + 1) + ct (fun j => wd_bit (H (m + 1)) j) 64
    rw [← ih, show 64 * (m + 1) + 32 = 64 + (64 * m + 32) by omega, ct_shift]
    refine congrArg (fun z => ct (fun w => sb H w) (64 * m + 32) + z) ?_
    refine ct_congr 64 (fun i hi => ?_)
    unfold sb iw jw
    rw [if_neg (by omega), if_neg (by omega), show 1 + (i + (64 * m + 32) - 32) / 64 = m + 1 by omega, show (i + (64 * m + 32) - 32) % 64 = i by omega]
/-- all alike, all entailed -/
def wA (H : Nat → Nat → Int64) (a b : Nat) : Bool := al (fun i => decide (H a i = H b i)) 65 0
def wE (H : Nat → Nat → Int64) (a b : Nat) : Bool := al (fun i => decide (H a i &&& (H b i ^^^ (Int64.ofNat 18446744073709551615)) = 0)) 65 0
theorem al_true {p : Nat → Bool} : ∀ {m i : Nat}, al p m i = true ↔ ∀ v, i ≤ v → v < i + m → p v = true
  | 0, i => ⟨fun _ v h1 h2 => by omega, fun _ => rfl⟩
  | m + 1, i => by
    unfold al
    rw [Bool.and_eq_true, al_true]
    constructor
    · rintro ⟨h1, h2⟩ v h3 h4
      by_cases e : v = i
      · subst e; exact h1
      · exact h2 v (by omega) (by omega)
    · exact fun h => ⟨h i (by omega) (by omega), fun v h1 h2 => h v (by omega) (by omega)⟩
theorem wA_self (H : Nat → Nat → Int64) (a : Nat) : wA H a a = true := al_true.mpr fun v _ _ => decide_eq_true rfl
theorem wE_fr (H : Nat → Nat → Int64) (a b : Nat) : wE H a b = (fr (fun i => !decide (H a i &&& (H b i ^^^ (Int64.ofNat 18446744073709551615)) = 0)) 65 0).isNone := by
  cases e : fr (fun i => !decide (H a i &&& (H b i ^^^ (Int64.ofNat 18446744073709551615)) = 0)) 65 0 with
  | none => exact al_true.mpr fun v h1 h2 => by have := fr_none e v h1 h2; simpa using this
  | some i =>
    obtain ⟨a1, b1, c1, d1⟩ := fr_some e
    cases h : wE H a b with
    | false => rfl
    | true =>
      have := al_true.mp h i (by omega) (by omega)
      simp at c1 this
      exact absurd this c1
