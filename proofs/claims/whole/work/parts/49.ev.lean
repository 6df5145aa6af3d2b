/-! what a reading means, as mathematics: words of 64 worlds -/
def up (g : Nat → Nat) (x t : Nat) : Nat → Nat := fun y => if y = x then t else g y
/-- each, once, twice, behind so many things -/
def qt_st (gd rs : Nat → Int64) : Nat → Int64 × Int64 × Int64
  | 0 => ((Int64.ofNat 18446744073709551615), 0, 0)
  | t + 1 => ((qt_st gd rs t).1 &&& ((gd t ^^^ (Int64.ofNat 18446744073709551615)) ||| rs t), (qt_st gd rs t).2.1 ||| (gd t &&& rs t), (qt_st gd rs t).2.2 ||| (((qt_st gd rs t).2.1 &&& gd t) &&& rs t))
theorem qt_s1 (gd rs : Nat → Int64) (t : Nat) : (qt_st gd rs (t + 1)).1 = (qt_st gd rs t).1 &&& ((gd t ^^^ (Int64.ofNat 18446744073709551615)) ||| rs t) := rfl
theorem qt_s2 (gd rs : Nat → Int64) (t : Nat) : (qt_st gd rs (t + 1)).2.1 = (qt_st gd rs t).2.1 ||| (gd t &&& rs t) := rfl
theorem qt_s3 (gd rs : Nat → Int64) (t : Nat) : (qt_st gd rs (t + 1)).2.2 = (qt_st gd rs t).2.2 ||| (((qt_st gd rs t).2.1 &&& gd t) &&& rs t) := rfl
theorem qt_01 (gd rs : Nat → Int64) : (qt_st gd rs 0).1 = (Int64.ofNat 18446744073709551615) := rfl
theorem qt_02 (gd rs : Nat → Int64) : (qt_st gd rs 0).2.1 = 0 := rfl
theorem qt_03 (gd rs : Nat → Int64) : (qt_st gd rs 0).2.2 = 0 := rfl
def qt (q : Int32) (s : Int64 × Int64 × Int64) : Int64 := if q = 0 then s.1 else if q = 1 then s.2.1 else if q = 2 then s.2.1 ^^^ (Int64.ofNat 18446744073709551615) else s.2.1 &&& (s.2.2 ^^^ (Int64.ofNat 18446744073709551615))
def ev (k : Nat) (Q : Nat → Int32) (kd : Nat → Nat → Option Nat) (en : Nat → (Nat → Nat) → Int64) : Nat → Nat → Nat → (Nat → Nat) → Int64
  | 0, a, j, g => match kd a j with
    | none => en a g
    | some _ => 0
  | f + 1, a, j, g => match kd a j with
    | none => en a g
    | some x => qt (Q x) (qt_st (fun t => ev k Q kd en f x 0 (up g x t)) (fun t => ev k Q kd en f a (j + 1) (up g x t)) k)
def lastx (p : Nat → Bool) : Nat → Option Nat
  | 0 => none
  | n + 1 => if p n then some n else lastx p n
/-- the phrase of rank j at a place -/
def rd_kd (n o : Nat) (l : List Nat) (a j : Nat) : Option Nat := lastx (fun x => decide (rd_pl n o l x = a ∧ rd_rk n o l x = j)) n
def bI (x : Int32) : Nat := if x = 0 then 0 else 1
/-- a place behind its last phrase -/
def ev_en (n o k : Nat) (V : Int32) (U W : Nat → Int32) (F : Nat → Int64) (a : Nat) (g : Nat → Nat) : Int64 := if a = 4 then F (2 * k + (bI V * k + g 0) * k + g o) else if a + 1 = o ∨ a + 1 = n then F (bI (U a) * k + g a) else F (bI (U a) * k + g a) &&& F (2 * k + (bI (W a) * k + g a) * k + g (a + 1))
/-- whether a reading keeps to its order: what is asked of has been given -/
def rd_chk (n o : Nat) (kd : Nat → Nat → Option Nat) : Nat → Nat → Nat → List Nat → Bool
  | f, a, j, S => match kd a j with
    | none => if a = 4 then S.contains 0 && S.contains o else S.contains a && (decide (a + 1 = o ∨ a + 1 = n) || S.contains (a + 1))
    | some x => match f with
      | 0 => false
      | f + 1 => !(S.contains x) && rd_chk n o kd f x 0 (x :: S) && rd_chk n o kd f a (j + 1) (x :: S)
def rd_fit (kd : Nat → Nat → Option Nat) : Nat → Nat → Nat → Bool
  | f, a, j => match kd a j with
    | none => true
    | some x => match f with
      | 0 => false
      | f + 1 => rd_fit kd f x 0 && rd_fit kd f a (j + 1)
def rd_dp (n o : Nat) (l : List Nat) : Nat → Nat → Nat
  | 0, _ => 0
  | f + 1, p => if rd_pl n o l p = 4 then 0 else 1 + rd_dp n o l f (rd_pl n o l p)
theorem rd_chk_ok : ∀ n, n < 5 → ∀ o, o < n → 1 ≤ o → ∀ l ∈ rd_perms n, rd_chk n o (rd_kd n o l) 4 4 0 [] = true := by decide +kernel
theorem rd_fit_ok : ∀ n, n < 5 → ∀ o, o < n → 1 ≤ o → ∀ l ∈ rd_perms n, ∀ a, a < 5 → ∀ j, j < 5 → (match rd_kd n o l a j with | none => decide (rd_kd n o l a (j + 1) = none) | some x => rd_fit (rd_kd n o l) 3 x 0 && rd_fit (rd_kd n o l) 3 a (j + 1)) = true := by decide +kernel
theorem rd_kd_u : ∀ n, n < 5 → ∀ o, o < n → 1 ≤ o → ∀ l ∈ rd_perms n, ∀ x, x < n → rd_kd n o l (rd_pl n o l x) (rd_rk n o l x) = some x := by decide +kernel
theorem rd_dp_ok : ∀ n, n < 5 → ∀ o, o < n → 1 ≤ o → ∀ l ∈ rd_perms n, ∀ x, x < n → rd_dp n o l 4 x < 4 ∧ (rd_pl n o l x = 4 ∨ rd_dp n o l 4 x = 1 + rd_dp n o l 4 (rd_pl n o l x)) := by decide +kernel
theorem rd_rk_lt : ∀ n, n < 5 → ∀ o, o < n → 1 ≤ o → ∀ l ∈ rd_perms n, ∀ x, x < n → rd_rk n o l x < n := by decide +kernel
theorem lastx_some {p : Nat → Bool} : ∀ {n x : Nat}, lastx p n = some x → x < n ∧ p x = true
  | 0, x, h => by cases h
  | n + 1, x, h => by
    unfold lastx at h
    split at h
    · next q => cases h; exact ⟨by omega, q⟩
    · have := lastx_some h
      exact ⟨by omega, this.2⟩
theorem lastx_none {p : Nat → Bool} : ∀ {n x : Nat}, lastx p n = none → x < n → p x = false
  | 0, x, h, hx => by omega
  | n + 1, x, h, hx => by
    unfold lastx at h
    split at h
    · cases h
    · next q =>
      by_cases e : x = n
      · subst e; simpa using q
      · exact lastx_none h (by omega)
theorem rd_kd_some {n o a j x : Nat} {l : List Nat} (h : rd_kd n o l a j = some x) : x < n ∧ rd_pl n o l x = a ∧ rd_rk n o l x = j := by
  obtain ⟨h1, h2⟩ := lastx_some h
  exact ⟨h1, of_decide_eq_true h2⟩
theorem rd_kd_none {n o a j x : Nat} {l : List Nat} (h : rd_kd n o l a j = none) (hx : x < n) : ¬ (rd_pl n o l x = a ∧ rd_rk n o l x = j) := of_decide_eq_false (lastx_none h hx)
theorem ev_fit {k : Nat} {Q : Nat → Int32} {kd : Nat → Nat → Option Nat} {en : Nat → (Nat → Nat) → Int64} : ∀ (f a j : Nat) (g : Nat → Nat), rd_fit kd f a j = true → ev k Q kd en (f + 1) a j g = ev k Q kd en f a j g
  | 0, a, j, g, h => by
    unfold rd_fit at h
    unfold ev
    cases e : kd a j with
    | none => rfl
    | some x => rw [e] at h; cases h
  | f + 1, a, j, g, h => by
    unfold rd_fit at h
    rw [ev, ev]
    cases e : kd a j with
    | none => rfl
    | some x =>
      rw [e] at h
      simp only [Bool.and_eq_true] at h
      have h1 : (fun t => ev k Q kd en (f + 1) x 0 (up g x t)) = fun t => ev k Q kd en f x 0 (up g x t) := funext fun t => ev_fit f x 0 _ h.1
      have h2 : (fun t => ev k Q kd en (f + 1) a (j + 1) (up g x t)) = fun t => ev k Q kd en f a (j + 1) (up g x t) := funext fun t => ev_fit f a (j + 1) _ h.2
      simp only [h1, h2]
/-- the digits of a giving -/
def dg (k a p : Nat) : Nat := if p < 4 then a / k ^ p % k else 0
theorem dg_up1b : ((List.range 5).all fun k => decide (k = 0) || ((List.range (k ^ 4)).all fun a => (List.range 4).all fun x => (List.range k).all fun t => (List.range 4).all fun p => decide ((a - a / k ^ x % k * k ^ x + t * k ^ x) / k ^ p % k = if p = x then t else a / k ^ p % k))) = true := by decide +kernel
theorem dg_lt1b : ((List.range 5).all fun k => decide (k = 0) || ((List.range 5).all fun n => (List.range (k ^ n)).all fun a => (List.range n).all fun x => decide (a / k ^ x % k * k ^ x ≤ a) && ((List.range k).all fun t => decide (a - a / k ^ x % k * k ^ x + t * k ^ x < k ^ n)))) = true := by decide +kernel
theorem or_k {k : Nat} {b : Bool} (h : (decide (k = 0) || b) = true) (hk : 1 ≤ k) : b = true := by
  rw [decide_eq_false (by omega)] at h
  exact h
theorem dg_up1 {k a x t p : Nat} (hk : k < 5) (hk1 : 1 ≤ k) (ha : a < k ^ 4) (hx : x < 4) (ht : t < k) (hp : p < 4) : (a - a / k ^ x % k * k ^ x + t * k ^ x) / k ^ p % k = if p = x then t else a / k ^ p % k := of_decide_eq_true (al_ex (al_ex (al_ex (al_ex (or_k (al_ex dg_up1b hk) hk1) ha) hx) ht) hp)
theorem dg_lt1 {k n a x : Nat} (hk : k < 5) (hk1 : 1 ≤ k) (hn : n < 5) (ha : a < k ^ n) (hx : x < n) : a / k ^ x % k * k ^ x ≤ a ∧ ∀ t, t < k → a - a / k ^ x % k * k ^ x + t * k ^ x < k ^ n := by
  have h := al_ex (al_ex (al_ex (or_k (al_ex dg_lt1b hk) hk1) hn) ha) hx
  simp only [Bool.and_eq_true] at h
  exact ⟨of_decide_eq_true h.1, fun t ht => of_decide_eq_true (al_ex h.2 ht)⟩
theorem dg_up {k a x t : Nat} (hk1 : 1 ≤ k) (hk : k ≤ 4) (ha : a < k ^ 4) (hx : x < 4) (ht : t < k) : dg k (a - a / k ^ x % k * k ^ x + t * k ^ x) = up (dg k a) x t := by
  funext p
  unfold dg up
  by_cases hp : p < 4
  · rw [if_pos hp, dg_up1 (by omega) hk1 ha hx ht hp]
    simp [hp]
  · rw [if_neg hp, if_neg (by omega)]
    simp only [if_neg hp]
