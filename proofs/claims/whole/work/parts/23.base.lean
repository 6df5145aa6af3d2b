/-! what both sides hold, as mathematics -/
/-- a sentence: phrases n, the object's number o, verb, quantifiers, nouns, verbs of hosts (-4: no host) -/
def sn_ok (n o : Nat) (vv : Int32) (q u w : Nat → Int32) : Prop := 2 ≤ n ∧ n ≤ 4 ∧ 1 ≤ o ∧ o < n ∧ (vv = 0 ∨ vv = 1) ∧ ∀ p, p < n → (q p = 0 ∨ q p = 1 ∨ q p = 2 ∨ q p = 3) ∧ (u p = 0 ∨ u p = 1) ∧ (if p + 1 = o ∨ p + 1 = n then w p = -4 else w p = 0 ∨ w p = 1)
/-- the class's sentence -/
def sn_X (N O V : Int32) (Q U W : Nat → Int32) (n o : Nat) (vv : Int32) (q u w : Nat → Int32) : Prop := N = nI n ∧ O = nI o ∧ V = vv ∧ ∀ p, p < n → Q p = q p ∧ U p = u p ∧ W p = w p
/-- the reference's sentence, from place b of its row on -/
def sn_M (st : Nat → Int32) (b n o : Nat) (vv : Int32) (q u w : Nat → Int32) : Prop := st b = nI n ∧ st (b + 1) = nI o ∧ st (b + 2) = vv ∧ ∀ p, p < n → st (b + 3 + 5 * p) = q p ∧ st (b + 4 + 5 * p) = u p ∧ st (b + 5 + 5 * p) = (if p = 0 ∨ p = o then -4 else nI (p - 1)) ∧ st (b + 6 + 5 * p) = w p ∧ st (b + 7 + 5 * p) = (if p + 1 = o ∨ p + 1 = n then -4 else nI (p + 1))
/-- how many facts a world of k things has -/
def wd_n (k : Nat) : Nat := 2 * k + 2 * k * k
/-- which cell of the reference's row a fact is -/
def wd_c (k j : Nat) : Nat := if j < 2 * k then 24 + 4 * (j / k) + j % k else 32 + 16 * ((j - 2 * k) / (k * k)) + 4 * ((j - 2 * k) / k % k) + (j - 2 * k) % k
def wd_bit (F : Int64) (j : Nat) : Bool := F.toBitVec.getLsbD j
/-- the class's world: k things, facts b -/
def wd_X (N : Int32) (F : Int64) (k : Nat) (b : Nat → Bool) : Prop := N = nI k ∧ ∀ j, j < wd_n k → wd_bit F j = b j
def wd_M (st : Nat → Int32) (c k : Nat) (b : Nat → Bool) : Prop := st (c + 23) = nI k ∧ ∀ j, j < wd_n k → st (c + wd_c k j) = (if b j then 1 else 0)
theorem nI_lit (k : Nat) : (OfNat.ofNat k : Int32) = nI k := rfl
theorem wd_c_inj {k : Nat} (hk : 1 ≤ k) (hk4 : k ≤ 4) : ∀ i, i < wd_n k → ∀ j, j < wd_n k → wd_c k i = wd_c k j → i = j := by
  have : k = 1 ∨ k = 2 ∨ k = 3 ∨ k = 4 := by omega
  rcases this with rfl | rfl | rfl | rfl <;> decide +kernel
theorem wd_c_rng {k : Nat} (hk : 1 ≤ k) (hk4 : k ≤ 4) : ∀ j, j < wd_n k → 24 ≤ wd_c k j ∧ wd_c k j < 64 := by
  have : k = 1 ∨ k = 2 ∨ k = 3 ∨ k = 4 := by omega
  rcases this with rfl | rfl | rfl | rfl <;> decide +kernel
