/-! the code tables held against the bytes and against the words of the tables -/
def ab_wd (pl : Nat) (w : Jvm.Cond) : Bool := decide (lw_tbl[pl]? = some w) && goodWord w
def ab_dY : aY := (yL_law, cL_law, 0, none, true, 0, 99, 0, 0, 0, 0)
def ab_y (j : Nat) : aY := ab_yt.getD j ab_dY
/-- the length of an instruction that has one of its own -/
def ab_ln : Instr → Nat
  | .bipush _ => 2
  | .sipush _ => 3
  | .iload _ => 2
  | .lload _ => 2
  | .aload _ => 2
  | .istore _ => 2
  | .lstore _ => 2
  | .astore _ => 2
  | .iinc _ _ => 3
  | .goto _ => 3
  | .if_icmp _ _ => 3
  | .ifCond _ _ => 3
  | .ldc _ => 2
  | .ldc_w _ => 3
  | .ldc2_w _ => 3
  | .getfield _ => 3
  | .putfield _ => 3
  | .getstatic _ => 3
  | .newarray _ => 2
  | .anewarray _ => 3
  | .new _ => 3
  | .invokevirtual _ => 3
  | .invokestatic _ => 3
  | .invokespecial _ => 3
  | _ => 1
def ab_tyn : Nat → FieldType
  | 0 => .byte
  | 1 => .int
  | 2 => .long
  | 3 => .boolean
  | 4 => .object RX0
  | _ => .object RX5
def ab_okR (y : MethodName) (pc : Nat) (e : aE) : Bool := match e.1 with
  | .bipush n => decide ((Int8.ofInt n).toInt32 = ab_k n)
  | .sipush n => decide ((Int16.ofInt n).toInt32 = ab_k n)
  | .goto o => (match e.2.2 with
    | [t] => decide ((pc : Int) + o = (t : Int))
    | _ => false)
  | .if_icmp _ o => (match e.2.2 with
    | [t] => decide ((pc : Int) + o = (t : Int))
    | _ => false)
  | .ifCond _ o => (match e.2.2 with
    | [t] => decide ((pc : Int) + o = (t : Int))
    | _ => false)
  | .tableswitch d lo hi os => (match e.2.2 with
    | t :: ts => decide ((pc : Int) + d = (t : Int)) && decide (os.toList.map (fun o => (pc : Int) + o) = ts.map (fun q : Nat => Int.ofNat q)) && decide (hi - lo + 1 = (ts.length : Int))
    | _ => false)
  | .lookupswitch d ps => (match e.2.2 with
    | [t, t0, t1] => decide ((pc : Int) + d = (t : Int)) && decide (ps.toList = [(0, (t0 : Int) - pc), (1, (t1 : Int) - pc)])
    | _ => false)
  | .ldc i => (match e.2.2 with
    | [0, pl, v] => ab_wd pl (.constant y.cls i (Int32.ofNat v))
    | [k, _] => decide (900 ≤ k) && decide (ab_sr[k - 900]?.map (fun r => (r.1, r.2.1)) = some (y.cls, i))
    | _ => false)
  | .ldc_w i => (match e.2.2 with
    | [0, pl, v] => ab_wd pl (.constant y.cls i (Int32.ofNat v))
    | _ => false)
  | .ldc2_w i => (match e.2.2 with
    | [_, pl, v] => ab_wd pl (.constantLong y.cls i (Int64.ofNat v))
    | _ => false)
  | .getfield i => (match e.2.2 with
    | [ci, k, pl] => if ci = 90 then (match k with
        | 0 => ab_wd pl (.fieldLink y.cls i "java/lang/String" "value" "[B")
        | 1 => ab_wd pl (.fieldLink y.cls i "java/lang/String" "coder" "B")
        | _ => false) else (match vwCl[ci]? with
      | some (_, T, N) => decide (k < N) && ab_wd pl (.fieldLink y.cls i (T k).1 (T k).2.1 (T k).2.2.1)
      | none => false)
    | _ => false)
  | .putfield i => (match e.2.2 with
    | [ci, k, pl] => (match vwCl[ci]? with
      | some (_, T, N) => decide (k < N) && ab_wd pl (.fieldLink y.cls i (T k).1 (T k).2.1 (T k).2.2.1) && (!(T k).2.2.2 || (decide (y.name = "<init>") && decide ((T k).1 = y.cls)))
      | none => false)
    | _ => false)
  | .getstatic i => (match e.2.2 with
    | [950, _, _] => decide (y.cls = RX1) && decide (i = 81)
    | [951, _, pl] => ab_wd pl (.fieldLink y.cls i "java/lang/String" "COMPACT_STRINGS" "Z")
    | _ => false)
  | .newarray t => (match e.2.2 with
    | [k, pl] => decide (k < 4) && decide (newarray.typeOf t = ab_tyn k) && ab_wd pl (.arrayClass (newarray.typeOf t))
    | _ => false)
  | .anewarray i => (match e.2.2 with
    | [k, pl] => (decide (k = 4) && ab_wd pl (.classLink y.cls i RX0)) || (decide (k = 5) && ab_wd pl (.classLink y.cls i RX5))
    | _ => false)
  | .new i => (match e.2.2 with
    | [ci, p1, p2, p3] => (match vwCl[ci]? with
      | some (C, _, N) => ab_wd p1 (.classLink y.cls i C) && ab_wd p2 (.instantiable C N) && ab_wd p3 (.initialized C)
      | none => false)
    | _ => false)
  | .invokevirtual i => (match e.2.2 with
    | [j, pl, 0] => decide (j < ab_N) && !(ab_y j).2.2.2.2.1 && decide ((ab_y j).1.name ≠ "<init>") && ab_wd pl (.methodLink y.cls i (ab_y j).1)
    | _ => false)
  | .invokestatic i => (match e.2.2 with
    | [999, pl, 0] => ab_wd pl (.methodLink y.cls i yJ0_checkIndex_df160)
    | [j, pl, 0] => decide (j < ab_N) && (ab_y j).2.2.2.2.1 && ab_wd pl (.methodLink y.cls i (ab_y j).1)
    | [j, _, 1] => decide (j < ab_N) && (ab_y j).2.2.2.2.1 && decide (Jvm.Cond.methodLinkNest y.cls i (ab_y j).1 RX8 ∈ ab_nest)
    | _ => false)
  | .invokespecial i => (match e.2.2 with
    | [998, pl, 0] => ab_wd pl (.methodLink y.cls i objectInit)
    | [j, pl, 0] => decide (j < ab_N) && !(ab_y j).2.2.2.2.1 && decide ((ab_y j).1.name = "<init>") && decide ((ab_y j).2.2.2.1 = none) && ab_wd pl (.methodLink y.cls i (ab_y j).1)
    | _ => false)
  | _ => true
def ab_sw : Instr → Bool
  | .tableswitch _ _ _ _ => true
  | .lookupswitch _ _ => true
  | _ => false
def ab_okE (y : MethodName) (b : ByteArray) (pc : Nat) (e : aE) : Bool :=
  decide (decode b pc = .ok (e.1, e.2.1)) && (ab_sw e.1 || Nat.beq e.2.1 (ab_ln e.1)) && ab_okR y pc e
def ab_okC (mi : Nat) : Bool := (List.range ((ab_mt mi).2.length * 16)).all fun pc => match ab_look (ab_mt mi).2 pc with
  | some e => ab_okE (ab_y mi).1 (ab_y mi).2.1 pc e
  | none => true
def ab_okY (j : Nat) : Bool := match ab_y j with
  | (y, b, mx, rt, st, na, ci, p1, p2, p3, p4) => goodWord (.code y b mx rt) && ab_wd p2 (if st then .static y else .instanceMethod y) && (st || decide (y.name = "<init>") || ab_wd p3 (.selects y.cls y y)) && ab_wd p4 (.initialized y.cls) && plainName y.cls
    && decide (y.cls ≠ "java/lang/invoke/MethodHandle") && decide (y.cls ≠ "java/lang/invoke/VarHandle") && decide ((parseMethodDescriptor y.desc).map (fun d => d.parameters.length) = some na) && Nat.ble mx 21
    && decide (ab_nf j = (na, ci, mx)) && decide ((ab_mt j).1 = rt) && (st || (if ci = 90 then decide (y.cls = "java/lang/String") else decide (vwCl[ci]?.map (fun r => r.1) = some y.cls)))
def ab_pc (j : Nat) : Nat := (ab_y j).2.2.2.2.2.2.2.1
set_option maxRecDepth 100000 in
theorem ab_okY_0 : (List.range 23).all (fun i => ab_okY (0 + i)) = true := by decide +kernel
set_option maxRecDepth 100000 in
theorem ab_okY_23 : (List.range 23).all (fun i => ab_okY (23 + i)) = true := by decide +kernel
set_option maxRecDepth 100000 in
theorem ab_okY_46 : (List.range 23).all (fun i => ab_okY (46 + i)) = true := by decide +kernel
set_option maxRecDepth 100000 in
theorem ab_okY_69 : (List.range 23).all (fun i => ab_okY (69 + i)) = true := by decide +kernel
set_option maxRecDepth 100000 in
theorem ab_okY_92 : (List.range 23).all (fun i => ab_okY (92 + i)) = true := by decide +kernel
set_option maxRecDepth 100000 in
theorem ab_okY_115 : (List.range 23).all (fun i => ab_okY (115 + i)) = true := by decide +kernel
set_option maxRecDepth 100000 in
theorem ab_okY_138 : (List.range 23).all (fun i => ab_okY (138 + i)) = true := by decide +kernel
set_option maxRecDepth 100000 in
theorem ab_okY_161 : (List.range 23).all (fun i => ab_okY (161 + i)) = true := by decide +kernel
set_option maxRecDepth 100000 in
theorem ab_cw_0 : (List.range 23).map (fun i => lw_tbl[ab_pc (0 + i)]?) = (List.range 23).map (fun i => match ab_y (0 + i) with | (y, b, mx, rt, _) => some (.code y b mx rt)) := rfl
set_option maxRecDepth 100000 in
theorem ab_cw_23 : (List.range 23).map (fun i => lw_tbl[ab_pc (23 + i)]?) = (List.range 23).map (fun i => match ab_y (23 + i) with | (y, b, mx, rt, _) => some (.code y b mx rt)) := rfl
set_option maxRecDepth 100000 in
theorem ab_cw_46 : (List.range 23).map (fun i => lw_tbl[ab_pc (46 + i)]?) = (List.range 23).map (fun i => match ab_y (46 + i) with | (y, b, mx, rt, _) => some (.code y b mx rt)) := rfl
set_option maxRecDepth 100000 in
theorem ab_cw_69 : (List.range 23).map (fun i => lw_tbl[ab_pc (69 + i)]?) = (List.range 23).map (fun i => match ab_y (69 + i) with | (y, b, mx, rt, _) => some (.code y b mx rt)) := rfl
set_option maxRecDepth 100000 in
theorem ab_cw_92 : (List.range 23).map (fun i => lw_tbl[ab_pc (92 + i)]?) = (List.range 23).map (fun i => match ab_y (92 + i) with | (y, b, mx, rt, _) => some (.code y b mx rt)) := rfl
set_option maxRecDepth 100000 in
theorem ab_cw_115 : (List.range 23).map (fun i => lw_tbl[ab_pc (115 + i)]?) = (List.range 23).map (fun i => match ab_y (115 + i) with | (y, b, mx, rt, _) => some (.code y b mx rt)) := rfl
set_option maxRecDepth 100000 in
theorem ab_cw_138 : (List.range 23).map (fun i => lw_tbl[ab_pc (138 + i)]?) = (List.range 23).map (fun i => match ab_y (138 + i) with | (y, b, mx, rt, _) => some (.code y b mx rt)) := rfl
set_option maxRecDepth 100000 in
theorem ab_cw_161 : (List.range 23).map (fun i => lw_tbl[ab_pc (161 + i)]?) = (List.range 23).map (fun i => match ab_y (161 + i) with | (y, b, mx, rt, _) => some (.code y b mx rt)) := rfl
set_option maxRecDepth 100000 in
theorem ab_okC_0 : (List.range 8).all (fun i => ab_okC (0 + i)) = true := by decide +kernel
set_option maxRecDepth 100000 in
theorem ab_okC_8 : (List.range 8).all (fun i => ab_okC (8 + i)) = true := by decide +kernel
set_option maxRecDepth 100000 in
theorem ab_okC_16 : (List.range 8).all (fun i => ab_okC (16 + i)) = true := by decide +kernel
set_option maxRecDepth 100000 in
theorem ab_okC_24 : (List.range 8).all (fun i => ab_okC (24 + i)) = true := by decide +kernel
set_option maxRecDepth 100000 in
theorem ab_okC_32 : (List.range 8).all (fun i => ab_okC (32 + i)) = true := by decide +kernel
set_option maxRecDepth 100000 in
theorem ab_okC_40 : (List.range 8).all (fun i => ab_okC (40 + i)) = true := by decide +kernel
set_option maxRecDepth 100000 in
theorem ab_okC_48 : (List.range 8).all (fun i => ab_okC (48 + i)) = true := by decide +kernel
set_option maxRecDepth 100000 in
theorem ab_okC_56 : (List.range 8).all (fun i => ab_okC (56 + i)) = true := by decide +kernel
set_option maxRecDepth 100000 in
theorem ab_okC_64 : (List.range 8).all (fun i => ab_okC (64 + i)) = true := by decide +kernel
set_option maxRecDepth 100000 in
theorem ab_okC_72 : (List.range 8).all (fun i => ab_okC (72 + i)) = true := by decide +kernel
set_option maxRecDepth 100000 in
theorem ab_okC_80 : (List.range 8).all (fun i => ab_okC (80 + i)) = true := by decide +kernel
set_option maxRecDepth 100000 in
theorem ab_okC_88 : (List.range 8).all (fun i => ab_okC (88 + i)) = true := by decide +kernel
set_option maxRecDepth 100000 in
theorem ab_okC_96 : (List.range 8).all (fun i => ab_okC (96 + i)) = true := by decide +kernel
set_option maxRecDepth 100000 in
theorem ab_okC_104 : (List.range 8).all (fun i => ab_okC (104 + i)) = true := by decide +kernel
set_option maxRecDepth 100000 in
theorem ab_okC_112 : (List.range 8).all (fun i => ab_okC (112 + i)) = true := by decide +kernel
set_option maxRecDepth 100000 in
theorem ab_okC_120 : (List.range 8).all (fun i => ab_okC (120 + i)) = true := by decide +kernel
set_option maxRecDepth 100000 in
theorem ab_okC_128 : (List.range 8).all (fun i => ab_okC (128 + i)) = true := by decide +kernel
set_option maxRecDepth 100000 in
theorem ab_okC_136 : (List.range 8).all (fun i => ab_okC (136 + i)) = true := by decide +kernel
set_option maxRecDepth 100000 in
theorem ab_okC_144 : (List.range 8).all (fun i => ab_okC (144 + i)) = true := by decide +kernel
set_option maxRecDepth 100000 in
theorem ab_okC_152 : (List.range 8).all (fun i => ab_okC (152 + i)) = true := by decide +kernel
set_option maxRecDepth 100000 in
theorem ab_okC_160 : (List.range 8).all (fun i => ab_okC (160 + i)) = true := by decide +kernel
set_option maxRecDepth 100000 in
theorem ab_okC_168 : (List.range 8).all (fun i => ab_okC (168 + i)) = true := by decide +kernel
set_option maxRecDepth 100000 in
theorem ab_okC_176 : (List.range 8).all (fun i => ab_okC (176 + i)) = true := by decide +kernel
