/-! Long.bitCount counts bits -/
def un (x : Int64) : Nat := x.toBitVec.toNat
theorem un_lt (x : Int64) : un x < 2 ^ 64 := x.toBitVec.isLt
theorem un_and (a b : Int64) : un (a &&& b) = un a &&& un b := by unfold un; rw [Int64.toBitVec_and, BitVec.toNat_and]
theorem un_add {a b : Int64} (h : un a + un b < 2 ^ 64) : un (a + b) = un a + un b := by
  unfold un at h ⊢
  rw [Int64.toBitVec_add, BitVec.toNat_add, Nat.mod_eq_of_lt h]
theorem un_sub {a b : Int64} (h : un b ≤ un a) : un (a - b) = un a - un b := by
  unfold un at h ⊢
  rw [Int64.toBitVec_sub, BitVec.toNat_sub_of_le (BitVec.le_def.mpr h)]
theorem un_bit (x : Int64) (i : Nat) : wd_bit x i = (un x).testBit i := by
  unfold wd_bit un
  rw [BitVec.testBit_toNat]
theorem un_shr {F : Int64} {j : Nat} (hj : j < 64) : un ((F.toUInt64 >>> ((nI j).toInt64.toUInt64 &&& Int64.toUInt64 63)).toInt64) = un F / 2 ^ j := by
  rw [bx_cu j hj]
  have h2 : ((F.toUInt64 >>> UInt64.ofNat j).toInt64).toBitVec = F.toBitVec >>> j := by
    show (F.toUInt64 >>> UInt64.ofNat j).toBitVec = _
    rw [UInt64.toBitVec_shiftRight]
    show F.toBitVec >>> ((UInt64.ofNat j).toBitVec % 64#64) = F.toBitVec >>> j
    have h3 : ((UInt64.ofNat j).toBitVec % 64#64).toNat = j := by
      revert j
      decide +kernel
    rw [BitVec.ushiftRight_eq', h3]
  unfold un
  rw [h2, BitVec.toNat_ushiftRight, Nat.shiftRight_eq_div_pow]
/-- byte by byte -/
def sp (f : Nat → Nat) : Nat → Nat → Nat
  | 0, _ => 0
  | n + 1, u => f (u % 256) + 256 * sp f n (u / 256)
def ss (f : Nat → Nat) : Nat → Nat → Nat
  | 0, _ => 0
  | n + 1, u => f (u % 256) + ss f n (u / 256)
theorem and_b {x y m z : Nat} (hx : x < 256) (hm : m < 256) : (x + 256 * y) &&& (m + 256 * z) = (x &&& m) + 256 * (y &&& z) := by
  have h1 := Nat.and_div_two_pow (a := x + 256 * y) (b := m + 256 * z) (n := 8)
  have h2 := Nat.and_mod_two_pow (a := x + 256 * y) (b := m + 256 * z) (n := 8)
  have e : (2 : Nat) ^ 8 = 256 := rfl
  rw [e] at h1 h2
  rw [show (x + 256 * y) / 256 = y by omega, show (m + 256 * z) / 256 = z by omega] at h1
  rw [show (x + 256 * y) % 256 = x by omega, show (m + 256 * z) % 256 = m by omega] at h2
  omega
theorem sp_1 : ∀ b, b < 256 → ∀ e, e < 2 → (b / 2 + 128 * e) &&& 85 = (b / 2) &&& 85 := by decide +kernel
theorem sp_2 : ∀ b, b < 256 → ∀ e, e < 4 → (b / 4 + 64 * e) &&& 51 = (b / 4) &&& 51 := by decide +kernel
theorem sp_3 : ∀ b, b < 256 → ∀ e, e < 5 → (b + b / 16 + 16 * e) &&& 15 = (b + b / 16) &&& 15 := by decide +kernel
theorem sp_L2 : ∀ (n u : Nat), (u / 2) &&& sp (fun _ => 85) n 0 = sp (fun b => (b / 2) &&& 85) n u
  | 0, u => Nat.and_zero _
  | n + 1, u => by
    unfold sp
    rw [Nat.zero_div, ← sp_L2 n (u / 256)]
    have e : u / 2 = (u % 256 / 2 + 128 * (u / 256 % 2)) + 256 * (u / 256 / 2) := by omega
    rw [e, and_b (by omega) (by decide), sp_1 _ (by omega) _ (by omega)]
theorem sp_L5 {f : Nat → Nat} (hf : ∀ b, b < 256 → f b < 256) : ∀ (n u : Nat), sp f n u &&& sp (fun _ => 51) n 0 = sp (fun b => f b &&& 51) n u
  | 0, u => Nat.and_zero _
  | n + 1, u => by
    unfold sp
    rw [Nat.zero_div, ← sp_L5 hf n (u / 256), and_b (hf _ (by omega)) (by decide)]
theorem sp_L6 {f : Nat → Nat} (hf : ∀ b, b < 256 → f b < 256) : ∀ (n u : Nat), (sp f n u / 4) &&& sp (fun _ => 51) n 0 = sp (fun b => (f b / 4) &&& 51) n u
  | 0, u => Nat.and_zero _
  | n + 1, u => by
    unfold sp
    rw [Nat.zero_div, ← sp_L6 hf n (u / 256)]
    have hb := hf (u % 256) (by omega)
    have e : (f (u % 256) + 256 * sp f n (u / 256)) / 4 = (f (u % 256) / 4 + 64 * (sp f n (u / 256) % 4)) + 256 * (sp f n (u / 256) / 4) := by omega
    rw [e, and_b (by omega) (by decide), sp_2 _ hb _ (by omega)]
theorem sp_L7 {f : Nat → Nat} (hf : ∀ b, b < 256 → f b % 16 ≤ 4 ∧ f b / 16 ≤ 4) : ∀ (n u : Nat), (sp f n u + sp f n u / 16) &&& sp (fun _ => 15) n 0 = sp (fun b => (f b + f b / 16) &&& 15) n u
  | 0, u => Nat.and_zero _
  | n + 1, u => by
    unfold sp
    rw [Nat.zero_div, ← sp_L7 hf n (u / 256)]
    have hb := hf (u % 256) (by omega)
    have hh : sp f n (u / 256) % 16 ≤ 4 := by
      cases n with
      | zero => exact Nat.zero_le _
      | succ n =>
        unfold sp
        have := hf (u / 256 % 256) (by omega)
        omega
    have e : f (u % 256) + 256 * sp f n (u / 256) + (f (u % 256) + 256 * sp f n (u / 256)) / 16 = (f (u % 256) + f (u % 256) / 16 + 16 * (sp f n (u / 256) % 16)) + 256 * (sp f n (u / 256) + sp f n (u / 256) / 16) := by omega
    rw [e, and_b (by omega) (by decide), sp_3 _ (by omega) _ (by omega)]
theorem sp_id : ∀ (n u : Nat), u < 256 ^ n → sp (fun b => b) n u = u
  | 0, u, h => by
    have : u = 0 := by rw [Nat.pow_zero] at h; omega
    subst this; rfl
  | n + 1, u, h => by
    unfold sp
    rw [sp_id n (u / 256) (by rw [Nat.pow_succ] at h; omega)]
    omega
theorem sp_le {f g : Nat → Nat} (h : ∀ b, b < 256 → g b ≤ f b) : ∀ (n u : Nat), sp g n u ≤ sp f n u
  | 0, u => Nat.le_refl _
  | n + 1, u => by
    unfold sp
    have := sp_le h n (u / 256)
    have := h (u % 256) (by omega)
    omega
theorem sp_sub {f g : Nat → Nat} (h : ∀ b, b < 256 → g b ≤ f b) : ∀ (n u : Nat), sp f n u - sp g n u = sp (fun b => f b - g b) n u
  | 0, u => rfl
  | n + 1, u => by
    unfold sp
    have h1 := sp_le h n (u / 256)
    have h2 := h (u % 256) (by omega)
    have h3 := sp_sub h n (u / 256)
    omega
theorem sp_add {f g : Nat → Nat} : ∀ (n u : Nat), sp f n u + sp g n u = sp (fun b => f b + g b) n u
  | 0, u => rfl
  | n + 1, u => by
    unfold sp
    have h3 := sp_add (f := f) (g := g) n (u / 256)
    omega
def pc1 (b : Nat) : Nat := b - ((b / 2) &&& 85)
def pc2 (b : Nat) : Nat := (pc1 b &&& 51) + ((pc1 b / 4) &&& 51)
def pc3 (b : Nat) : Nat := (pc2 b + pc2 b / 16) &&& 15
theorem pc_ok : ∀ b, b < 256 → (b / 2) &&& 85 ≤ b ∧ pc1 b < 256 ∧ pc2 b % 16 ≤ 4 ∧ pc2 b / 16 ≤ 4 ∧ pc3 b = ct (fun i => b.testBit i) 8 ∧ pc3 b ≤ 8 := by decide +kernel
theorem pc_m5 : sp (fun _ => 85) 8 0 = 6148914691236517205 := by decide +kernel
theorem pc_m3 : sp (fun _ => 51) 8 0 = 3689348814741910323 := by decide +kernel
theorem pc_mf : sp (fun _ => 15) 8 0 = 1085102592571150095 := by decide +kernel
theorem ct_shift (p : Nat → Bool) (a : Nat) : ∀ m, ct p (m + a) = ct p a + ct (fun i => p (i + a)) m
  | 0 => by rw [Nat.zero_add]; rfl
  | m + 1 => by
    have ih := ct_shift p a m
    rw [show m + 1 + a = (m + a) + 1 by omega]
    show ct p (m + a) + (if p (m + a) then 1 else 0) = ct p a + (ct (fun i => p (i + a)) m + (if p (m + a) then 1 else 0))
    rw [ih, Nat.add_assoc]
theorem ct_congr {p q : Nat → Bool} : ∀ n, (∀ i, i < n → p i = q i) → ct p n = ct q n
  | 0, _ => rfl
  | n + 1, h => by
    unfold ct
    rw [ct_congr n (fun i hi => h i (by omega)), h n (by omega)]
theorem ct_ss : ∀ (n u : Nat), ct (fun i => u.testBit i) (8 * n) = ss pc3 n u
  | 0, u => rfl
  | n + 1, u => by
    unfold ss
    rw [← ct_ss n (u / 256), show 8 * (n + 1) = 8 * n + 8 by omega, ct_shift]
    have e1 : ct (fun i => u.testBit i) 8 = pc3 (u % 256) := by
      rw [(pc_ok (u % 256) (by omega)).2.2.2.2.1]
      refine ct_congr 8 (fun i hi => ?_)
      have := Nat.testBit_mod_two_pow u 8 i
      rw [show (2 : Nat) ^ 8 = 256 from rfl] at this
      rw [this]
      simp [hi]
    have e2 : (fun i => u.testBit (i + 8)) = fun i => (u / 256).testBit i := by
      funext i
      exact Nat.testBit_add u i 8
    rw [e1, e2]
theorem pc_nat {u : Nat} (hu : u < 2 ^ 64) : ((u / 2) &&& 6148914691236517205) ≤ u ∧ ((((u - ((u / 2) &&& 6148914691236517205)) &&& 3689348814741910323) + (((u - ((u / 2) &&& 6148914691236517205)) / 4) &&& 3689348814741910323)) + (((u - ((u / 2) &&& 6148914691236517205)) &&& 3689348814741910323) + (((u - ((u / 2) &&& 6148914691236517205)) / 4) &&& 3689348814741910323)) / 16) &&& 1085102592571150095 = sp pc3 8 u := by
  have hi := sp_id 8 u (by rw [show 256 ^ 8 = 2 ^ 64 from rfl]; exact hu)
  have h1 : (u / 2) &&& 6148914691236517205 = sp (fun b => (b / 2) &&& 85) 8 u := by rw [← pc_m5]; exact sp_L2 8 u
  have h2 : u - ((u / 2) &&& 6148914691236517205) = sp pc1 8 u := by
    rw [h1]
    have := sp_sub (f := fun b => b) (g := fun b => (b / 2) &&& 85) (fun b hb => (pc_ok b hb).1) 8 u
    rw [hi] at this
    exact this
  have h3 : ((u - ((u / 2) &&& 6148914691236517205)) &&& 3689348814741910323) + (((u - ((u / 2) &&& 6148914691236517205)) / 4) &&& 3689348814741910323) = sp pc2 8 u := by
    rw [h2, ← pc_m3, sp_L5 (fun b hb => (pc_ok b hb).2.1), sp_L6 (fun b hb => (pc_ok b hb).2.1)]
    exact sp_add 8 u
  refine ⟨?_, ?_⟩
  · rw [h1]
    have := sp_le (f := fun b => b) (g := fun b => (b / 2) &&& 85) (fun b hb => (pc_ok b hb).1) 8 u
    rw [hi] at this
    exact this
  · rw [h3, ← pc_mf]
    exact sp_L7 (fun b hb => ⟨(pc_ok b hb).2.2.1, (pc_ok b hb).2.2.2.1⟩) 8 u
theorem pc_d1 {p A a : Nat} (h : p < 256) (e : a = p + 256 * A) : a / 256 = A := by omega
theorem pc_d2 {p q A a : Nat} (hp : p < 256) (hq : q < 256) (e : a = p + 256 * (q + 256 * A)) : a / 65536 = A := by omega
theorem pc_d4 {p q r s A a : Nat} (hp : p < 256) (hq : q < 256) (hr : r < 256) (hs : s < 256) (e : a = p + 256 * (q + 256 * (r + 256 * (s + 256 * A)))) : a / 4294967296 = A := by
  have h1 : p + 256 * q < 65536 := by omega
  have h2 : r + 256 * s < 65536 := by omega
  have h3 : a = (p + 256 * q) + 65536 * ((r + 256 * s) + 65536 * A) := by omega
  rw [h3]
  omega
theorem pc_b1 {p A B : Nat} (h : p < 256) (hA : A < B) : p + 256 * A < 256 * B := by omega
theorem pc_f4 {p0 p1 p2 p3 p4 p5 p6 p7 : Nat} : (p0 + 256 * (p1 + 256 * (p2 + 256 * (p3 + 256 * (p4 + 256 * (p5 + 256 * (p6 + 256 * p7))))))) + (p1 + 256 * (p2 + 256 * (p3 + 256 * (p4 + 256 * (p5 + 256 * (p6 + 256 * p7)))))) = (p0 + p1) + 256 * ((p1 + p2) + 256 * ((p2 + p3) + 256 * ((p3 + p4) + 256 * ((p4 + p5) + 256 * ((p5 + p6) + 256 * ((p6 + p7) + 256 * p7)))))) := by omega
theorem pc_f5 {s0 s1 s2 s3 s4 s5 s6 s7 : Nat} : (s0 + 256 * (s1 + 256 * (s2 + 256 * (s3 + 256 * (s4 + 256 * (s5 + 256 * (s6 + 256 * s7))))))) + (s2 + 256 * (s3 + 256 * (s4 + 256 * (s5 + 256 * (s6 + 256 * s7))))) = (s0 + s2) + 256 * ((s1 + s3) + 256 * ((s2 + s4) + 256 * ((s3 + s5) + 256 * ((s4 + s6) + 256 * ((s5 + s7) + 256 * (s6 + 256 * s7)))))) := by omega
theorem pc_f6 {s0 A s4 B : Nat} (h : s0 + s4 < 128) : ((s0 + 256 * A) + (s4 + 256 * B)) % 128 = s0 + s4 := by omega
theorem pc_bd {D p0 p1 p2 p3 p4 p5 p6 p7 : Nat} (hD : D < 256) (h0 : p0 ≤ D) (h1 : p1 ≤ D) (h2 : p2 ≤ D) (h3 : p3 ≤ D) (h4 : p4 ≤ D) (h5 : p5 ≤ D) (h6 : p6 ≤ D) (h7 : p7 ≤ D) : p0 + 256 * (p1 + 256 * (p2 + 256 * (p3 + 256 * (p4 + 256 * (p5 + 256 * (p6 + 256 * p7)))))) < 256 * (256 * (256 * (256 * (256 * (256 * (256 * (D + 1))))))) := pc_b1 (by omega) (pc_b1 (by omega) (pc_b1 (by omega) (pc_b1 (by omega) (pc_b1 (by omega) (pc_b1 (by omega) (pc_b1 (by omega) (by omega)))))))
theorem pc_sum {p0 p1 p2 p3 p4 p5 p6 p7 a3 a4 a5 a6 : Nat} (h0 : p0 ≤ 8) (h1 : p1 ≤ 8) (h2 : p2 ≤ 8) (h3 : p3 ≤ 8) (h4 : p4 ≤ 8) (h5 : p5 ≤ 8) (h6 : p6 ≤ 8) (h7 : p7 ≤ 8) (e3 : a3 = p0 + 256 * (p1 + 256 * (p2 + 256 * (p3 + 256 * (p4 + 256 * (p5 + 256 * (p6 + 256 * (p7 + 256 * 0)))))))) (e4 : a4 = a3 + a3 / 256) (e5 : a5 = a4 + a4 / 65536) (e6 : a6 = a5 + a5 / 4294967296) : a3 < 2 ^ 60 ∧ a4 < 2 ^ 61 ∧ a5 < 2 ^ 62 ∧ a6 % 128 = p0 + (p1 + (p2 + (p3 + (p4 + (p5 + (p6 + (p7 + 0))))))) := by
  rw [Nat.mul_zero, Nat.add_zero] at e3
  have d3 := pc_d1 (show p0 < 256 by omega) e3
  rw [d3, e3, pc_f4] at e4
  have d4 := pc_d2 (show p0 + p1 < 256 by omega) (show p1 + p2 < 256 by omega) e4
  rw [d4, e4, pc_f5] at e5
  have d5 := pc_d4 (show p0 + p1 + (p2 + p3) < 256 by omega) (show p1 + p2 + (p3 + p4) < 256 by omega) (show p2 + p3 + (p4 + p5) < 256 by omega) (show p3 + p4 + (p5 + p6) < 256 by omega) e5
  rw [d5, e5] at e6
  refine ⟨?_, ?_, ?_, ?_⟩
  · rw [e3]
    exact Nat.lt_trans (pc_bd (D := 8) (by decide) h0 h1 h2 h3 h4 h5 h6 h7) (by decide)
  · rw [e4]
    clear e3 e4 e5 e6 d3 d4 d5
    exact Nat.lt_trans (pc_bd (D := 16) (by decide) (by omega) (by omega) (by omega) (by omega) (by omega) (by omega) (by omega) (by omega)) (by decide)
  · rw [e5]
    clear e3 e4 e5 e6 d3 d4 d5
    exact Nat.lt_trans (pc_bd (D := 32) (by decide) (by omega) (by omega) (by omega) (by omega) (by omega) (by omega) (by omega) (by omega)) (by decide)
  · rw [e6, pc_f6 (by clear e3 e4 e5 e6 d3 d4 d5; omega)]
    clear e3 e4 e5 e6 d3 d4 d5
    omega
theorem un_low (x : Int64) : x.toInt32 &&& (127 : Int32) = nI (un x % 128) := by
  have h1 : x.toInt32.toBitVec.toNat = un x % 2 ^ 32 := by
    show (x.toBitVec.signExtend 32).toNat = _
    rw [BitVec.signExtend_eq_setWidth_of_le _ (by decide), BitVec.toNat_setWidth]
    rfl
  rw [pk_and _ 7 (by decide), h1]
  congr 1
  rw [show (2 : Nat) ^ 7 = 128 from rfl]
  omega
theorem x_bitCount {d : Nat} {x : Int64} {tN : Int32} {tB : Nat → Int32} {pF pA pT pB dN dO dV dZ : Int32} {dQ dU dW : Nat → Int32} {sN sO sV sZ : Int32} {sQ sU sW : Nat → Int32} {rN : Int32} {rP rK rF rR rT rL rQ : Nat → Int32} {mS : Int32} {mT : Nat → Int64} {mK : Nat → Int32} {mF : Nat → Int64} {mG m1 m2 : Nat → Int32} {wN : Int32} {wF : Int64} {yN : Int32} {yF : Int64} {iK eN eO eV eZ : Int32} {eQ eU eW : Nat → Int32} {eS : Int32} {eB : Int64} {jK fN fO fV fZ : Int32} {fQ fU fW : Nat → Int32} {fS : Int32} {fB : Int64} {h0N h0L : Int32} {h0C : Nat → Int32} {h1N h1L : Int32} {h1C : Nat → Int32} {h2N h2L : Int32} {h2C : Nat → Int32} {h3N h3L : Int32} {h3C : Nat → Int32} : Go d 178 0 [some (.long x), none] [] (hX tN tB pF pA pT pB dN dO dV dZ dQ dU dW sN sO sV sZ sQ sU sW rN rP rK rF rR rT rL rQ mS mT mK mF mG m1 m2 wN wF yN yF iK eN eO eV eZ eQ eU eW eS eB jK fN fO fV fZ fQ fU fW fS fB h0N h0L h0C h1N h1L h1C h2N h2L h2C h3N h3L h3C) (some (.int (nI (ct (fun i => wd_bit x i) 64)))) (hX tN tB pF pA pT pB dN dO dV dZ dQ dU dW sN sO sV sZ sQ sU sW rN rP rK rF rR rT rL rQ mS mT mK mF mG m1 m2 wN wF yN yF iK eN eO eV eZ eQ eU eW eS eB jK fN fO fV fZ fQ fU fW fS fB h0N h0L h0C h1N h1L h1C h2N h2L h2C h3N h3L h3C) := by
  have hx := un_lt x
  obtain ⟨c1, c2⟩ := pc_nat hx
  have m5 : un (Int64.ofNat 6148914691236517205) = 6148914691236517205 := by decide +kernel
  have m3 : un (Int64.ofNat 3689348814741910323) = 3689348814741910323 := by decide +kernel
  have mf : un (Int64.ofNat 1085102592571150095) = 1085102592571150095 := by decide +kernel
  have lt3 : ∀ a : Nat, (a &&& 3689348814741910323) ≤ 3689348814741910323 := fun a => Nat.and_le_right
  refine b_J13_bitCount_95d88_0 ?_
  obtain ⟨a1, h1⟩ : ∃ a1 : Int64, a1 = x - (((x.toUInt64 >>> ((nI 1).toInt64.toUInt64 &&& Int64.toUInt64 63)).toInt64) &&& (Int64.ofNat 6148914691236517205)) := ⟨_, rfl⟩
  have u1 : un a1 = un x - ((un x / 2) &&& 6148914691236517205) := by
    have e : un (((x.toUInt64 >>> ((nI 1).toInt64.toUInt64 &&& Int64.toUInt64 63)).toInt64) &&& (Int64.ofNat 6148914691236517205)) = (un x / 2) &&& 6148914691236517205 := by rw [un_and, un_shr (by decide), m5]
    rw [h1, un_sub (by rw [e]; exact c1), e]
  show Go d 178 10 [some (.long (x - (((x.toUInt64 >>> ((nI 1).toInt64.toUInt64 &&& Int64.toUInt64 63)).toInt64) &&& (Int64.ofNat 6148914691236517205)))), none] [] _ _ _
  rw [← h1]
  refine b_J13_bitCount_95d88_10 ?_
  obtain ⟨a2, h2⟩ : ∃ a2 : Int64, a2 = (a1 &&& (Int64.ofNat 3689348814741910323)) + (((a1.toUInt64 >>> ((nI 2).toInt64.toUInt64 &&& Int64.toUInt64 63)).toInt64) &&& (Int64.ofNat 3689348814741910323)) := ⟨_, rfl⟩
  have u2 : un a2 = (un a1 &&& 3689348814741910323) + ((un a1 / 4) &&& 3689348814741910323) := by
    have e1 : un (a1 &&& (Int64.ofNat 3689348814741910323)) = un a1 &&& 3689348814741910323 := by rw [un_and, m3]
    have e2 : un (((a1.toUInt64 >>> ((nI 2).toInt64.toUInt64 &&& Int64.toUInt64 63)).toInt64) &&& (Int64.ofNat 3689348814741910323)) = (un a1 / 4) &&& 3689348814741910323 := by rw [un_and, un_shr (by decide), m3]
    have l1 := lt3 (un a1)
    have l2 := lt3 (un a1 / 4)
    rw [h2, un_add (by rw [e1, e2]; omega), e1, e2]
  show Go d 178 24 [some (.long ((a1 &&& (Int64.ofNat 3689348814741910323)) + (((a1.toUInt64 >>> ((nI 2).toInt64.toUInt64 &&& Int64.toUInt64 63)).toInt64) &&& (Int64.ofNat 3689348814741910323)))), none] [] _ _ _
  rw [← h2]
  refine b_J13_bitCount_95d88_24 ?_
  have b2 : un a2 ≤ 7378697629483820646 := by
    have l1 := lt3 (un a1)
    have l2 := lt3 (un a1 / 4)
    omega
  obtain ⟨a3, h3⟩ : ∃ a3 : Int64, a3 = (a2 + ((a2.toUInt64 >>> ((nI 4).toInt64.toUInt64 &&& Int64.toUInt64 63)).toInt64)) &&& (Int64.ofNat 1085102592571150095) := ⟨_, rfl⟩
  have u3 : un a3 = sp pc3 8 (un x) := by
    have e1 : un ((a2.toUInt64 >>> ((nI 4).toInt64.toUInt64 &&& Int64.toUInt64 63)).toInt64) = un a2 / 16 := un_shr (by decide)
    rw [h3, un_and, un_add (by rw [e1]; omega), e1, mf, u2, u1]
    exact c2
  show Go d 178 34 [some (.long ((a2 + ((a2.toUInt64 >>> ((nI 4).toInt64.toUInt64 &&& Int64.toUInt64 63)).toInt64)) &&& (Int64.ofNat 1085102592571150095))), none] [] _ _ _
  rw [← h3]
  have pb : ∀ b : Nat, pc3 (b % 256) ≤ 8 := fun b => (pc_ok (b % 256) (by omega)).2.2.2.2.2
  have s3 : un a3 = pc3 (un x % 256) + 256 * (pc3 (un x / 256 % 256) + 256 * (pc3 (un x / 256 / 256 % 256) + 256 * (pc3 (un x / 256 / 256 / 256 % 256) + 256 * (pc3 (un x / 256 / 256 / 256 / 256 % 256) + 256 * (pc3 (un x / 256 / 256 / 256 / 256 / 256 % 256) + 256 * (pc3 (un x / 256 / 256 / 256 / 256 / 256 / 256 % 256) + 256 * (pc3 (un x / 256 / 256 / 256 / 256 / 256 / 256 / 256 % 256) + 256 * 0))))))) := u3
  obtain ⟨t1, t2, t3, t4⟩ := pc_sum (pb _) (pb _) (pb _) (pb _) (pb _) (pb _) (pb _) (pb _) s3 rfl rfl rfl
  refine b_J13_bitCount_95d88_34 ?_
  obtain ⟨a4, h4⟩ : ∃ a4 : Int64, a4 = a3 + ((a3.toUInt64 >>> ((nI 8).toInt64.toUInt64 &&& Int64.toUInt64 63)).toInt64) := ⟨_, rfl⟩
  have u4 : un a4 = un a3 + un a3 / 256 := by
    have e1 : un ((a3.toUInt64 >>> ((nI 8).toInt64.toUInt64 &&& Int64.toUInt64 63)).toInt64) = un a3 / 256 := un_shr (by decide)
    rw [h4, un_add (by rw [e1]; omega), e1]
  show Go d 178 41 [some (.long (a3 + ((a3.toUInt64 >>> ((nI 8).toInt64.toUInt64 &&& Int64.toUInt64 63)).toInt64))), none] [] _ _ _
  rw [← h4]
  rw [← u4] at t2 t3 t4
  refine b_J13_bitCount_95d88_41 ?_
  obtain ⟨a5, h5⟩ : ∃ a5 : Int64, a5 = a4 + ((a4.toUInt64 >>> ((nI 16).toInt64.toUInt64 &&& Int64.toUInt64 63)).toInt64) := ⟨_, rfl⟩
  have u5 : un a5 = un a4 + un a4 / 65536 := by
    have e1 : un ((a4.toUInt64 >>> ((nI 16).toInt64.toUInt64 &&& Int64.toUInt64 63)).toInt64) = un a4 / 65536 := un_shr (by decide)
    rw [h5, un_add (by rw [e1]; omega), e1]
  show Go d 178 48 [some (.long (a4 + ((a4.toUInt64 >>> ((nI 16).toInt64.toUInt64 &&& Int64.toUInt64 63)).toInt64))), none] [] _ _ _
  rw [← h5]
  rw [← u5] at t3 t4
  refine b_J13_bitCount_95d88_48 ?_
  obtain ⟨a6, h6⟩ : ∃ a6 : Int64, a6 = a5 + ((a5.toUInt64 >>> ((nI 32).toInt64.toUInt64 &&& Int64.toUInt64 63)).toInt64) := ⟨_, rfl⟩
  have u6 : un a6 = un a5 + un a5 / 4294967296 := by
    have e1 : un ((a5.toUInt64 >>> ((nI 32).toInt64.toUInt64 &&& Int64.toUInt64 63)).toInt64) = un a5 / 4294967296 := un_shr (by decide)
    rw [h6, un_add (by rw [e1]; omega), e1]
  show Go d 178 55 [some (.long (a5 + ((a5.toUInt64 >>> ((nI 32).toInt64.toUInt64 &&& Int64.toUInt64 63)).toInt64))), none] [] _ _ _
  rw [← h6]
  rw [← u6] at t4
  refine b_J13_bitCount_95d88_55 ⟨?_, rfl⟩
  rw [un_low, t4]
  have e : (fun i => wd_bit x i) = fun i => (un x).testBit i := funext fun i => un_bit x i
  rw [e, show (64 : Nat) = 8 * 8 from rfl, ct_ss]
  rfl
