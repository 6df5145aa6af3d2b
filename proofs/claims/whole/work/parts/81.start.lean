/-! the start: both sides made, and alike -/
theorem k_sn : sn_S 2 1 (2 : Int32) (1 : Int32) (0 : Int32) (upd (upd (fun _ => 0) 0 (0 : Int32)) 1 (1 : Int32)) (upd (upd (fun _ => 0) 0 (0 : Int32)) 1 (1 : Int32)) (upd (upd (fun _ => 0) 0 (-4 : Int32)) 1 (-4 : Int32)) (upd (upd (upd (upd (upd (upd (upd (upd (upd (upd (upd (upd (upd (upd (upd (upd (upd (fun _ => 0) 0 (2 : Int32)) 1 (1 : Int32)) 5 (-4 : Int32)) 6 (-4 : Int32)) 7 (-4 : Int32)) 10 (-4 : Int32)) 11 (-4 : Int32)) 12 (-4 : Int32)) 15 (-4 : Int32)) 16 (-4 : Int32)) 17 (-4 : Int32)) 20 (-4 : Int32)) 21 (-4 : Int32)) 22 (-4 : Int32)) 8 (1 : Int32)) 9 (1 : Int32)) 23 (1 : Int32)) 0 := by
  refine ⟨?_, rfl, rfl, ?_⟩
  · unfold sn_ok
    decide +kernel
  · unfold sn_M
    decide +kernel
theorem k_wd : wd_R (1 : Int32) (0 : Int64) (upd (upd (upd (upd (upd (upd (upd (upd (upd (upd (upd (upd (upd (upd (upd (upd (upd (fun _ => 0) 0 (2 : Int32)) 1 (1 : Int32)) 5 (-4 : Int32)) 6 (-4 : Int32)) 7 (-4 : Int32)) 10 (-4 : Int32)) 11 (-4 : Int32)) 12 (-4 : Int32)) 15 (-4 : Int32)) 16 (-4 : Int32)) 17 (-4 : Int32)) 20 (-4 : Int32)) 21 (-4 : Int32)) 22 (-4 : Int32)) 8 (1 : Int32)) 9 (1 : Int32)) 23 (1 : Int32)) := ⟨1, fun _ => false, by decide, by decide, ⟨rfl, by decide +kernel⟩, rfl, by decide +kernel⟩
theorem k_pt : pt_M (vp_updL (vp_updL (vp_updL (vp_updL (vp_updL (vp_updL (fun _ => 0) 0 (Int64.ofNat 12297829382473034410)) 1 (Int64.ofNat 14757395258967641292)) 2 (Int64.ofNat 17361641481138401520)) 3 (Int64.ofNat 18374966859414961920)) 4 (Int64.ofNat 18446462603027742720)) 5 (Int64.ofNat 18446744069414584320)) := by
  unfold pt_M
  decide +kernel
theorem k_0 : ∃ hx hm, Go 14 55 0 [some (.ref 0), none] [] ([.inr (8, [.null, .null, .null, .null, .null, .null, .null, .null, .null])]) none hx ∧ Go 14 101 0 [some (.ref 0), none] [] ([.inr (9, [.null, .null, .null, .null, .null, .int (0 : Int32), .int (0 : Int32), .int (0 : Int32), .int (0 : Int32), .int (0 : Int32), .int (0 : Int32), .null, .null, .null, .int (0 : Int32), .int (0 : Int32), .null, .null, .null, .null, .null, .null, .null, .null, .null, .null, .int (0 : Int32), .null, .null, .int (0 : Int32), .null, .null, .null])]) none hm ∧ RR hx hm := by
  obtain ⟨rN1, rP1, rK1, rF1, rR1, rT1, rL1, rQ1, tb, gx⟩ := k_X (d := 9)
  refine ⟨_, _, gx, k_M (d := 9), RR.mk (n := 2) (o := 1) ⟨k_sn, tb, rr_mt0 (fun _ _ => rfl), k_pt, Or.inl rfl⟩ k_wd ⟨0, by decide, rfl, rfl, fun j hj => absurd hj (Nat.not_lt_zero j)⟩ rfl ⟨rfl, Or.inl rfl, fun q => absurd q (by decide)⟩ ⟨rfl, Or.inl rfl, fun q => absurd q (by decide)⟩ ⟨Or.inl ⟨rfl, rfl⟩, Or.inl ⟨rfl, rfl⟩, Or.inl ⟨rfl, rfl⟩, Or.inl ⟨rfl, rfl⟩⟩⟩
theorem RR.sz {hx hm : aH} (R : RR hx hm) : hx.length = 51 ∧ ab_hs hx = 2480 ∧ hm.length = 24 ∧ ab_hs hm = 4150 := by
  refine R _ ?_
  intro tN tB pF pA pT pB dN dO dV dZ dQ dU dW sN sO sV sZ sQ sU sW rN rP rK rF rR rT rL rQ mS mT mK mF mG m1 m2 wN wF yN yF iK eN eO eV eZ eQ eU eW eS eB jK fN fO fV fZ fQ fU fW fS fB h0N h0L h0C h1N h1L h1C h2N h2L h2C h3N h3L h3C st draft kept isKept tape taped pos begun sort fault wrongAt rows places aheads readings isFound now at_ place rank nounBits verbBits inner table next powers things holding patterns seeded lanes sizes cells n o e1 e2 _ _ _ _ _ _ _
  subst e1 e2
  exact ⟨rfl, by simp [ab_hs, hX, ab_sz], rfl, by simp [ab_hs, hM, ab_sz]⟩
