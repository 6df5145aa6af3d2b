/-! how the small machine's states stand for the machine's -/
def ab_G : List Jvm.Cond := lw_tbl.filter goodWord
theorem ab_wd_mem {pl : Nat} {w : Jvm.Cond} (h : ab_wd pl w = true) : w ∈ ab_G ∧ goodWord w = true := by
  simp only [ab_wd, Bool.and_eq_true, decide_eq_true_eq] at h
  exact ⟨List.mem_filter.mpr ⟨List.mem_of_getElem? h.1, h.2⟩, h.2⟩
theorem ab_G_good {ws : List Jvm.Cond} (h : ∀ w ∈ ws, w ∈ ab_G) : GoodIn ab_G ws := fun w hw => ⟨h w hw, good_of_word (List.mem_filter.mp (h w hw)).2⟩
theorem ab_chunk {f : Nat → Bool} (a n : Nat) (h : (List.range n).all (fun i => f (a + i)) = true) {mi : Nat} (h1 : a ≤ mi) (h2 : mi < a + n) : f mi = true := by
  have h3 := List.all_eq_true.mp h (mi - a) (List.mem_range.mpr (by omega))
  have h4 : a + (mi - a) = mi := by omega
  simpa only [h4] using h3
theorem ab_look_lt {K : List (List (Option aE))} {pc : Nat} {en : aE} (h : ab_look K pc = some en) : pc < K.length * 16 := by
  unfold ab_look at h
  split at h
  · next l hl =>
    have := (List.getElem?_eq_some_iff.mp hl).1
    omega
  · cases h
def ab_v (ad : Nat → Nat) : Value → Value
  | .ref k => .ref (ad k)
  | v => v
theorem ab_v_cat (ad : Nat → Nat) (v : Value) : (ab_v ad v).category = ab_cat v := by cases v <;> rfl
def ab_x (ad : Nat → Nat) (a : vp_A) : vp_A := match a with
  | (n, .inr (.inr (.inr (.inr f)))) => (n, .inr (.inr (.inr (.inr (fun j => if j < n then (f j).map ad else none)))))
  | (n, .inl f) => (n, .inl f)
  | (n, .inr (.inl f)) => (n, .inr (.inl f))
  | (n, .inr (.inr (.inl f))) => (n, .inr (.inr (.inl f)))
  | (n, .inr (.inr (.inr (.inl f)))) => (n, .inr (.inr (.inr (.inl f))))
theorem ab_x_1 (ad : Nat → Nat) (a : vp_A) : (ab_x ad a).1 = a.1 := by
  obtain ⟨n, f | f | f | f | f⟩ := a <;> rfl
def ab_e (cA : Nat → ClassId) (ad : Nat → Nat) : va_E → va_E
  | .inl (t, a) => .inl (cA t, ab_x ad a)
  | .inr (ci, fs) => .inr (ci, fs.map (ab_v ad))
def ab_ws (cA : Nat → ClassId) (ad : Nat → Nat) (h : aH) : va_W := h.mapIdx (fun i x => (ad i, ab_e cA ad x))
theorem ab_ws_at {cA : Nat → ClassId} {ad : Nat → Nat} {h : aH} {i : Nat} {x : va_E} (hx : h[i]? = some x) : (ab_ws cA ad h)[i]? = some (ad i, ab_e cA ad x) := by
  simp [ab_ws, hx]
theorem ab_ws_set {cA : Nat → ClassId} {ad : Nat → Nat} {h : aH} {a : Nat} {x : va_E} : (ab_ws cA ad h).set a (ad a, ab_e cA ad x) = ab_ws cA ad (h.set a x) := by
  apply List.ext_getElem?
  intro i
  by_cases hi : a = i
  · subst hi
    by_cases hl : a < h.length
    · rw [List.getElem?_set_self (by simpa [ab_ws] using hl)]
      exact (ab_ws_at (List.getElem?_set_self hl)).symm
    · simp [ab_ws, List.getElem?_set, hl]
  · rw [List.getElem?_set_ne hi]
    simp [ab_ws, List.getElem?_set_ne hi]
theorem ab_ws_push {cA : Nat → ClassId} {ad ad' : Nat → Nat} {h : aH} {x : va_E} {q : Nat} (hq : ad' h.length = q) (ho : ∀ (i : Nat) (y : va_E), h[i]? = some y → ad' i = ad i ∧ ab_e cA ad' y = ab_e cA ad y) : ab_ws cA ad h ++ [(q, ab_e cA ad' x)] = ab_ws cA ad' (h ++ [x]) := by
  apply List.ext_getElem?
  intro i
  have hlen : (ab_ws cA ad h).length = h.length := by simp [ab_ws]
  rcases Nat.lt_trichotomy i h.length with hi | hi | hi
  · rw [List.getElem?_append_left (by omega)]
    obtain ⟨h1, h2⟩ := ho i _ (List.getElem?_eq_getElem hi)
    rw [ab_ws_at (List.getElem?_eq_getElem hi), ab_ws_at (x := h[i]) (by rw [List.getElem?_append_left hi]; exact List.getElem?_eq_getElem hi), h1, h2]
  · subst hi
    rw [List.getElem?_append_right (by omega), hlen, Nat.sub_self]
    rw [ab_ws_at (x := x) (by simp), hq]
    rfl
  · rw [List.getElem?_eq_none (by simp [hlen]; omega), List.getElem?_eq_none (by simp [ab_ws]; omega)]
def ab_tyl (cA : Nat → ClassId) : List (ClassId × FieldType) := [(cA 0, .byte), (cA 1, .int), (cA 2, .long), (cA 3, .boolean), (cA 4, .object RX0), (cA 5, .object RX5)]
/-- the locals -/
def ab_L (ad : Nat → Nat) (ls : Array Slot) (L : aL) : Prop := ls.size = L.length ∧ lv_wf ls ∧ ∀ (k : Nat) (v : Value), L[k]? = some (some v) → ls[k]? = some (.val (ab_v ad v))
def ab_lv (ad : Nat → Nat) (L : aL) : List (Nat × Value) := (List.range L.length).filterMap fun k => match L[k]? with
  | some (some v) => some (k, ab_v ad v)
  | _ => none
theorem ab_lv_mem {ad : Nat → Nat} {L : aL} {q : Nat × Value} : q ∈ ab_lv ad L ↔ ∃ v, L[q.1]? = some (some v) ∧ q.2 = ab_v ad v := by
  unfold ab_lv
  rw [List.mem_filterMap]
  constructor
  · rintro ⟨k, -, hk⟩
    split at hk
    · next v hv => cases hk; exact ⟨v, hv, rfl⟩
    · cases hk
  · rintro ⟨v, h1, h2⟩
    refine ⟨q.1, List.mem_range.mpr (List.getElem?_eq_some_iff.mp h1).1, ?_⟩
    simp only [h1, ← h2]
theorem ab_L.has {ad : Nat → Nat} {ls : Array Slot} {L : aL} (h : ab_L ad ls L) : lv_has ls L.length (ab_lv ad L) := by
  refine ⟨h.1, h.2.1, fun q hq => ?_⟩
  obtain ⟨v, h1, h2⟩ := ab_lv_mem.mp hq
  rw [h2]
  exact h.2.2 _ _ h1
theorem ab_cut_len (L : aL) (i : Nat) : (ab_cut L i).length = L.length := by
  unfold ab_cut
  split
  · cases hb : (Nat.beq (ab_cat _) 2 && !(Nat.beq i 0)) <;> simp [hb]
  · rfl
theorem ab_cut_at {L : aL} {i k : Nat} {v : Value} (h : (ab_cut L i)[k]? = some (some v)) : L[k]? = some (some v) ∧ ¬ (k + 1 = i ∧ ab_cat v = 2) := by
  unfold ab_cut at h
  split at h
  · next w hw =>
    cases hb : (Nat.beq (ab_cat w) 2 && !(Nat.beq i 0)) with
    | false =>
      rw [hb] at h
      refine ⟨h, fun ⟨h1, h2⟩ => ?_⟩
      have hk : i - 1 = k := by omega
      rw [hk, show L[k]? = some (some v) from h] at hw
      cases hw
      have : i ≠ 0 := by omega
      simp [h2, this] at hb
    | true =>
      rw [hb] at h
      have h : (L.set (i - 1) none)[k]? = some (some v) := h
      by_cases hk : i - 1 = k
      · subst hk
        rw [List.getElem?_set] at h
        split at h
        · split at h <;> cases h
        · next hn => exact absurd rfl hn
      · rw [List.getElem?_set_ne hk] at h
        exact ⟨h, fun ⟨h1, _⟩ => hk (by omega)⟩
  · next hw =>
    refine ⟨h, fun ⟨h1, _⟩ => ?_⟩
    have hk : i - 1 = k := by omega
    exact hw v (by rw [hk]; exact h)
theorem ab_L.st1 {ad : Nat → Nat} {ls' : Array Slot} {L : aL} {i : Nat} {v : Value} (hi : i < L.length) (h : lv_has ls' L.length ((i, ab_v ad v) :: (ab_lv ad L).filter (fun q => !(q.1 == i) && !(q.1 + 1 == i && q.2.category == 2)))) : ab_L ad ls' ((ab_cut L i).set i (some v)) := by
  obtain ⟨h1, h2, h3⟩ := h
  refine ⟨by rw [h1]; simp [ab_cut_len], h2, fun k w hw => ?_⟩
  by_cases hk : i = k
  · subst hk
    rw [List.getElem?_set_self (by rw [ab_cut_len]; exact hi)] at hw
    cases hw
    exact h3 (i, ab_v ad v) List.mem_cons_self
  · rw [List.getElem?_set_ne hk] at hw
    obtain ⟨g1, g2⟩ := ab_cut_at hw
    refine h3 (k, ab_v ad w) (List.mem_cons_of_mem _ (List.mem_filter.mpr ⟨ab_lv_mem.mpr ⟨w, g1, rfl⟩, ?_⟩))
    simp only [Bool.and_eq_true, Bool.not_eq_true', beq_eq_false_iff_ne, ne_eq, Bool.and_eq_false_iff, ab_v_cat]
    refine ⟨fun z => hk z.symm, ?_⟩
    by_cases z : k + 1 = i
    · exact Or.inr (fun z2 => g2 ⟨z, z2⟩)
    · exact Or.inl z
theorem ab_L.st2 {ad : Nat → Nat} {ls' : Array Slot} {L : aL} {i : Nat} {v : Value} (hi : i + 1 < L.length) (h : lv_has ls' L.length ((i, ab_v ad v) :: (ab_lv ad L).filter (fun q => !(q.1 == i) && (!(q.1 == i + 1) && !(q.1 + 1 == i && q.2.category == 2))))) : ab_L ad ls' (((ab_cut L i).set i (some v)).set (i + 1) none) := by
  obtain ⟨h1, h2, h3⟩ := h
  refine ⟨by rw [h1]; simp [ab_cut_len], h2, fun k w hw => ?_⟩
  by_cases hk1 : i + 1 = k
  · subst hk1
    rw [List.getElem?_set_self (by simp [ab_cut_len]; exact hi)] at hw
    cases hw
  rw [List.getElem?_set_ne hk1] at hw
  by_cases hk : i = k
  · subst hk
    rw [List.getElem?_set_self (by rw [ab_cut_len]; omega)] at hw
    cases hw
    exact h3 (i, ab_v ad v) List.mem_cons_self
  · rw [List.getElem?_set_ne hk] at hw
    obtain ⟨g1, g2⟩ := ab_cut_at hw
    refine h3 (k, ab_v ad w) (List.mem_cons_of_mem _ (List.mem_filter.mpr ⟨ab_lv_mem.mpr ⟨w, g1, rfl⟩, ?_⟩))
    simp only [Bool.and_eq_true, Bool.not_eq_true', beq_eq_false_iff_ne, ne_eq, Bool.and_eq_false_iff, ab_v_cat]
    refine ⟨fun z => hk z.symm, fun z => hk1 z.symm, ?_⟩
    by_cases z : k + 1 = i
    · exact Or.inr (fun z2 => g2 ⟨z, z2⟩)
    · exact Or.inl z
theorem ab_slots_at : ∀ (vs : List Value) (i : Nat) (ad : Nat → Nat) (k : Nat) (v : Value), (ab_slots vs)[k]? = some (some v) → (i + k, ab_v ad v) ∈ lv_args i (vs.map (ab_v ad))
  | [], _, _, _, _, h => by simp [ab_slots] at h
  | w :: vs, i, ad, k, v, h => by
    simp only [List.map_cons, lv_args, ab_v_cat]
    by_cases hw : ab_cat w = 2
    · have hs : ab_slots (w :: vs) = some w :: none :: ab_slots vs := by simp [ab_slots, hw]
      rw [hs] at h
      rw [if_pos hw]
      match k, h with
      | 0, h => cases h; exact List.mem_cons_self
      | 1, h => cases h
      | k + 2, h =>
        refine List.mem_cons_of_mem _ ?_
        have := ab_slots_at vs (i + 2) ad k v (by simpa using h)
        rw [show i + (k + 2) = i + 2 + k by omega]
        exact this
    · have hb : Nat.beq (ab_cat w) 2 = false := by
        cases hx : Nat.beq (ab_cat w) 2
        · rfl
        · exact absurd (Nat.eq_of_beq_eq_true hx) hw
      have hs : ab_slots (w :: vs) = some w :: ab_slots vs := by simp [ab_slots, hb]
      rw [hs] at h
      rw [if_neg hw]
      match k, h with
      | 0, h => cases h; exact List.mem_cons_self
      | k + 1, h =>
        refine List.mem_cons_of_mem _ ?_
        have := ab_slots_at vs (i + 1) ad k v (by simpa using h)
        rw [show i + (k + 1) = i + 1 + k by omega]
        exact this
theorem ab_slots_len : ∀ (vs : List Value) (ad : Nat → Nat), (ab_slots vs).length = (lg_sl (vs.map (ab_v ad))).length
  | [], _ => rfl
  | w :: vs, ad => by
    have ih := ab_slots_len vs ad
    by_cases hw : ab_cat w = 2
    · simp [ab_slots, hw, lg_sl, ab_v_cat] at ih ⊢
      omega
    · have hb : Nat.beq (ab_cat w) 2 = false := by
        cases hx : Nat.beq (ab_cat w) 2
        · rfl
        · exact absurd (Nat.eq_of_beq_eq_true hx) hw
      simp [ab_slots, hw, hb, lg_sl, ab_v_cat] at ih ⊢
      omega
theorem ab_ent_L {ad : Nat → Nat} {n : Nat} {vs : List Value} (hn : (ab_slots vs).length ≤ n) : ab_L ad ((lg_sl (vs.map (ab_v ad)) ++ List.replicate (n - (lg_sl (vs.map (ab_v ad))).length) Slot.unset).toArray) (ab_ent n vs) := by
  have hl := ab_slots_len vs ad
  obtain ⟨h1, h2, h3⟩ := lv_entry (vs.map (ab_v ad)) (n := n) (by omega)
  refine ⟨by rw [h1]; simp [ab_ent]; omega, h2, fun k v hk => ?_⟩
  have hk2 : (ab_slots vs)[k]? = some (some v) := by
    unfold ab_ent at hk
    by_cases hlt : k < (ab_slots vs).length
    · rwa [List.getElem?_append_left hlt] at hk
    · rw [List.getElem?_append_right (by omega), List.getElem?_replicate] at hk
      split at hk <;> cases hk
  have := h3 _ (ab_slots_at vs 0 ad k v hk2)
  simpa using this
