/-! readings as mathematics: rows, places, ranks, the readings in order -/
def ct (p : Nat → Bool) : Nat → Nat
  | 0 => 0
  | n + 1 => ct p n + (if p n then 1 else 0)
def al (p : Nat → Bool) : Nat → Nat → Bool
  | 0, _ => true
  | m + 1, i => p i && al p m (i + 1)
def fr (p : Nat → Bool) : Nat → Nat → Option Nat
  | 0, _ => none
  | m + 1, i => if p i then some i else fr p m (i + 1)
def rd_perms : Nat → List (List Nat)
  | 2 => [[0, 1], [1, 0]]
  | 3 => [[0, 1, 2], [0, 2, 1], [1, 0, 2], [1, 2, 0], [2, 0, 1], [2, 1, 0]]
  | 4 => [[0, 1, 2, 3], [0, 1, 3, 2], [0, 2, 1, 3], [0, 2, 3, 1], [0, 3, 1, 2], [0, 3, 2, 1], [1, 0, 2, 3], [1, 0, 3, 2], [1, 2, 0, 3], [1, 2, 3, 0], [1, 3, 0, 2], [1, 3, 2, 0], [2, 0, 1, 3], [2, 0, 3, 1], [2, 1, 0, 3], [2, 1, 3, 0], [2, 3, 0, 1], [2, 3, 1, 0], [3, 0, 1, 2], [3, 0, 2, 1], [3, 1, 0, 2], [3, 1, 2, 0], [3, 2, 0, 1], [3, 2, 1, 0]]
  | _ => []
def rd_climb (l : List Nat) (f : Nat → Nat) (x : Nat) : Nat → Nat → Nat
  | 0, w => w
  | k + 1, w => if w ≠ 4 ∧ l.idxOf x < l.idxOf w then rd_climb l f x k (f w) else w
def rd_pl1 (o : Nat) (l : List Nat) (f : Nat → Nat) (x : Nat) : Nat := if x = 0 ∨ x = o then 4 else if l.idxOf (x - 1) < l.idxOf x then x - 1 else rd_climb l f x 4 (f (x - 1))
def rd_plf (o : Nat) (l : List Nat) : Nat → Nat → Nat
  | 0 => fun _ => 0
  | x + 1 => fun y => if y = x then rd_pl1 o l (rd_plf o l x) x else rd_plf o l x y
/-- the place of a phrase (4: the top) -/
def rd_pl (n o : Nat) (l : List Nat) (x : Nat) : Nat := rd_plf o l n x
def rd_rk (n o : Nat) (l : List Nat) (x : Nat) : Nat := ct (fun y => decide (rd_pl n o l x = rd_pl n o l y ∧ l.idxOf y < l.idxOf x)) n
def rd_same (n o : Nat) (l' l : List Nat) : Bool := al (fun p => decide (rd_pl n o l' p = rd_pl n o l p ∧ rd_rk n o l' p = rd_rk n o l p)) n 0
/-- which of some readings a row makes -/
def rd_find (n o : Nat) (acc : List (List Nat)) (l : List Nat) : Option Nat := fr (fun r => rd_same n o (acc.getD r []) l) acc.length 0
def rd_stp (n o : Nat) (acc : List (List Nat)) (l : List Nat) : List (List Nat) := if (rd_find n o acc l).isSome then acc else acc ++ [l]
/-- the readings that the first k rows make, each by its first row -/
def rd_acc (n o : Nat) : Nat → List (List Nat)
  | 0 => []
  | k + 1 => rd_stp n o (rd_acc n o k) ((rd_perms n).getD k [])
def rd_RD (n o : Nat) : List (List Nat) := rd_acc n o (rd_perms n).length
theorem rd_stp_len (n o : Nat) (acc : List (List Nat)) (l : List Nat) : (rd_stp n o acc l).length ≤ acc.length + 1 := by
  unfold rd_stp
  split
  · omega
  · simp
theorem rd_acc_len (n o : Nat) : ∀ k, (rd_acc n o k).length ≤ k
  | 0 => Nat.le_refl _
  | k + 1 => by
    have := rd_acc_len n o k
    have := rd_stp_len n o (rd_acc n o k) ((rd_perms n).getD k [])
    unfold rd_acc
    omega
theorem rd_perms_len (n : Nat) : (rd_perms n).length ≤ 24 := by
  unfold rd_perms
  split <;> decide
theorem rd_acc_mem (n o : Nat) : ∀ k, k ≤ (rd_perms n).length → ∀ l ∈ rd_acc n o k, l ∈ rd_perms n
  | 0, _, l, h => by cases h
  | k + 1, hk, l, h => by
    unfold rd_acc rd_stp at h
    have ih := rd_acc_mem n o k (by omega)
    split at h
    · exact ih l h
    · rw [List.mem_append] at h
      rcases h with h | h
      · exact ih l h
      · rw [List.mem_singleton] at h
        subst h
        rw [List.getD_eq_getElem?_getD, List.getElem?_eq_getElem (by omega)]
        exact List.getElem_mem _
theorem rd_acc_get {n o k r : Nat} (hk : k ≤ (rd_perms n).length) (hr : r < (rd_acc n o k).length) : (rd_acc n o k).getD r [] ∈ rd_perms n := by
  apply rd_acc_mem n o k hk
  rw [List.getD_eq_getElem?_getD, List.getElem?_eq_getElem hr]
  exact List.getElem_mem _
theorem rd_row : ∀ n, n < 5 → ∀ l ∈ rd_perms n, l.length = n ∧ ∀ i, i < n → l.getD i 0 < n ∧ l.idxOf i < n ∧ l.idxOf (l.getD i 0) = i ∧ l.getD (l.idxOf i) 0 = i := by decide +kernel
theorem rd_rk_X : ∀ n, n < 5 → ∀ o, o < n → ∀ l ∈ rd_perms n, ∀ x, x < n → ct (fun i => decide (rd_pl n o l (l.getD i 0) = rd_pl n o l x)) (l.idxOf x) = rd_rk n o l x := by decide +kernel
theorem rd_climb_b {l : List Nat} {f : Nat → Nat} {x : Nat} (hf : ∀ y, y < x → f y = 4 ∨ f y < y) : ∀ (k w : Nat), (w = 4 ∨ w < x) → (rd_climb l f x k w = 4 ∨ rd_climb l f x k w < x)
  | 0, w, h => h
  | k + 1, w, h => by
    unfold rd_climb
    split
    · next q =>
      refine rd_climb_b hf k (f w) ?_
      rcases h with h | h
      · exact absurd h q.1
      · have := hf w h
        omega
    · exact h
theorem rd_plf_b (o : Nat) (l : List Nat) : ∀ (x y : Nat), y < x → rd_plf o l x y = 4 ∨ rd_plf o l x y < y
  | 0, y, h => by omega
  | x + 1, y, h => by
    unfold rd_plf
    by_cases e : y = x
    · subst e
      simp only [if_true]
      unfold rd_pl1
      split
      · exact Or.inl rfl
      · next q =>
        split
        · right; omega
        · refine rd_climb_b (rd_plf_b o l y) 4 _ ?_
          have := rd_plf_b o l y (y - 1) (by omega)
          omega
    · simp only [if_neg e]
      exact rd_plf_b o l x y (by omega)
theorem rd_pl_b {n o x : Nat} {l : List Nat} (h : x < n) : rd_pl n o l x = 4 ∨ rd_pl n o l x < x := rd_plf_b o l n x h
theorem ct_le (p : Nat → Bool) : ∀ n, ct p n ≤ n
  | 0 => Nat.le_refl _
  | n + 1 => by
    have := ct_le p n
    unfold ct
    split <;> omega
theorem rd_rk_le (n o : Nat) (l : List Nat) (x : Nat) : rd_rk n o l x ≤ n := ct_le _ _
/-- the reference's way of telling a place -/
def cv (p : Nat) : Int32 := if p = 4 then -4 else nI p
theorem cv_inj : ∀ p, p < 5 → ∀ q, q < 5 → (cv p = cv q ↔ p = q) := by decide +kernel
theorem cv_4 : ∀ p, p < 5 → (cv p = -4 ↔ p = 4) := by decide +kernel
