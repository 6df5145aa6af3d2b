/-! two worlds side by side: one is called, the other is kept -/
def tw_ap (a b : va_W) : Prop := ∀ (i j : Nat) (x y : Nat × va_E), a[i]? = some x → b[j]? = some y → ¬ x.1 = y.1
theorem tw_ap.symm {a b : va_W} (h : tw_ap a b) : tw_ap b a := fun i j x y hx hy e => h j i y x hy hx e.symm
theorem tw_step {A0 : Nat → Prop} {D : va_G} {cl : List vw_C} {wc wr w1 : va_W} {H H1 : Heap} (hPr : va_P D cl wr H) (hap : tw_ap wc wr) (hk : ∀ q : Nat, q < H.size → ¬ va_A wc H.size q → H1[q]? = H[q]?) (hF : ∀ q, va_A wc H.size q → A0 q) (hD1 : va_D (va_A wc H.size) w1) : va_P D cl wr H1 ∧ tw_ap w1 wr ∧ va_D A0 w1 := by
  have apart : ∀ (k : Nat) (q : Nat × va_E), wr[k]? = some q → q.1 < H.size ∧ ¬ va_A wc H.size q.1 := by
    intro k q hq
    have hl := (hPr k q hq).lt
    refine ⟨hl, fun h => ?_⟩
    rcases h with ⟨k2, e, h⟩ | h
    · exact hap k2 k (q.1, e) q h hq rfl
    · omega
  refine ⟨fun k q hq => ?_, fun i j x y hx hy hxy => ?_, hD1.weaken (fun k q _ h => hF q.1 h)⟩
  · obtain ⟨g1, g2⟩ := apart k q hq
    exact (hPr k q hq).kept (hk q.1 g1 g2)
  · exact (apart j y hy).2 (by rw [← hxy]; exact hD1.2 i x hx)
theorem tw_free {A0 : Nat → Prop} {wc : va_W} {H0 H : Heap} {locs : List Loc} (hD : va_D A0 wc) (hS : va_S A0 H0 H locs) (hA : ∀ q, H0.size ≤ q → A0 q) : ∀ q, va_A wc H.size q → A0 q := by
  intro q h
  rcases h with ⟨k, x, hk⟩ | h
  · exact hD.2 k (q, x) hk
  · exact hA q (Nat.le_trans hS.1 h)
