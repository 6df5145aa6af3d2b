/-! THE SMALL MACHINE: the claim's bytecode run on lists. Its state: pc, locals, operand stack, and the cells by their numbers. Refs are the cells' numbers; 900 on: constants that lie outside. -/
abbrev aL : Type := List (Option Value)
abbrev aF : Type := Nat × aL × List Value
abbrev aH : Type := List va_E
/-- next frame, with a cell written or none; a cell made; an answer; a call -/
abbrev aR : Type := (aF × Option (Nat × va_E)) ⊕ ((aF × va_E) ⊕ ((Option Value) ⊕ (aF × Nat × List Value)))
def ab_go (pc : Nat) (L : aL) (S : List Value) : Option aR := some (.inl ((pc, L, S), none))
def ab_wr (pc : Nat) (L : aL) (S : List Value) (a : Nat) (e : va_E) : Option aR := some (.inl ((pc, L, S), some (a, e)))
def ab_ii (f : Int32 → Int32 → Int32) (pc : Nat) (L : aL) (S : List Value) : Option aR := match S with
  | .int y :: .int x :: R => ab_go (pc + 1) L (.int (f x y) :: R)
  | _ => none
def ab_dv (f : Int32 → Int32 → Int32) (pc : Nat) (L : aL) (S : List Value) : Option aR := match S with
  | .int y :: .int x :: R => if y = 0 then none else ab_go (pc + 1) L (.int (f x y) :: R)
  | _ => none
def ab_ll (f : Int64 → Int64 → Value) (pc : Nat) (L : aL) (S : List Value) : Option aR := match S with
  | .long y :: .long x :: R => ab_go (pc + 1) L (f x y :: R)
  | _ => none
def ab_li (f : Int64 → Int32 → Int64) (pc : Nat) (L : aL) (S : List Value) : Option aR := match S with
  | .int y :: .long x :: R => ab_go (pc + 1) L (.long (f x y) :: R)
  | _ => none
def ab_i1 (f : Int32 → Value) (pc : Nat) (L : aL) (S : List Value) : Option aR := match S with
  | .int x :: R => ab_go (pc + 1) L (f x :: R)
  | _ => none
def ab_l1 (f : Int64 → Value) (pc : Nat) (L : aL) (S : List Value) : Option aR := match S with
  | .long x :: R => ab_go (pc + 1) L (f x :: R)
  | _ => none
def ab_ldi (i pc : Nat) (L : aL) (S : List Value) : Option aR := match L[i]? with
  | some (some (.int x)) => ab_go pc L (.int x :: S)
  | _ => none
def ab_ldl (i pc : Nat) (L : aL) (S : List Value) : Option aR := match L[i]? with
  | some (some (.long x)) => ab_go pc L (.long x :: S)
  | _ => none
def ab_lda (i pc : Nat) (L : aL) (S : List Value) : Option aR := match L[i]? with
  | some (some (.ref x)) => ab_go pc L (.ref x :: S)
  | _ => none
/-- a local that is a long loses it when its second half is written -/
def ab_cat : Value → Nat
  | .long _ => 2
  | .double _ => 2
  | _ => 1
def ab_cut (L : aL) (i : Nat) : aL := match L[i - 1]? with
  | some (some v) => bif Nat.beq (ab_cat v) 2 && !(Nat.beq i 0) then L.set (i - 1) none else L
  | _ => L
def ab_st1 (v : Value) (i pc : Nat) (L : aL) (R : List Value) : Option aR :=
  if i < L.length then ab_go pc ((ab_cut L i).set i (some v)) R else none
def ab_st2 (v : Value) (i pc : Nat) (L : aL) (R : List Value) : Option aR :=
  if i + 1 < L.length then ab_go pc (((ab_cut L i).set i (some v)).set (i + 1) none) R else none
def ab_sti (i pc : Nat) (L : aL) (S : List Value) : Option aR := match S with
  | .int x :: R => ab_st1 (.int x) i pc L R
  | _ => none
def ab_stl (i pc : Nat) (L : aL) (S : List Value) : Option aR := match S with
  | .long x :: R => ab_st2 (.long x) i pc L R
  | _ => none
def ab_sta (i pc : Nat) (L : aL) (S : List Value) : Option aR := match S with
  | .ref x :: R => ab_st1 (.ref x) i pc L R
  | _ => none
def ab_inc (i : Nat) (n : Int) (pc : Nat) (L : aL) (S : List Value) : Option aR := match L[i]? with
  | some (some (.int x)) => ab_st1 (.int (x + ab_k n)) i pc L S
  | _ => none
def ab_cd (c : ClassFile.Cond) (x y : Int32) : Bool := match c with
  | .eq => decide (x = y)
  | .ne => !decide (x = y)
  | .lt => decide (x < y)
  | .ge => decide (y ≤ x)
  | .gt => decide (y < x)
  | .le => decide (x ≤ y)
def ab_in (i : Int32) (n : Nat) : Bool := !decide (i < 0) && Nat.blt i.toNatClampNeg n
def ab_dup (pc : Nat) (L : aL) (S : List Value) : Option aR := match S with
  | v :: R => if ab_cat v = 1 then ab_go pc L (v :: v :: R) else none
  | _ => none
def ab_pop (pc : Nat) (L : aL) (S : List Value) : Option aR := match S with
  | v :: R => if ab_cat v = 1 then ab_go pc L R else none
  | _ => none
def ab_dup2 (pc : Nat) (L : aL) (S : List Value) : Option aR := match S with
  | .int y :: .ref a :: R => ab_go pc L (.int y :: .ref a :: .int y :: .ref a :: R)
  | _ => none
/-- strings: their bytes; the table LOW_BITS -/
def ab_str : List (List Int32) := [[116, 104, 97, 116], [101, 118, 101, 114, 121], [115, 111, 109, 101], [110, 111], [111, 110, 101], [109, 97, 110], [100, 111, 103], [115, 101, 101, 115], [108, 105, 107, 101, 115]]
def ab_low : List Int64 := [Int64.ofNat 12297829382473034410, Int64.ofNat 14757395258967641292, Int64.ofNat 17361641481138401520, Int64.ofNat 18374966859414961920, Int64.ofNat 18446462603027742720, Int64.ofNat 18446744069414584320]
def ab_fld (ci k pc : Nat) (L : aL) (S : List Value) (h : aH) : Option aR := match S with
  | .ref a :: R => match h[a]? with
    | some (.inr (c, fs)) => if c = ci then (match fs[k]? with
      | some v => ab_go pc L (v :: R)
      | none => none) else none
    | some (.inl _) => none
    | none => if ci = 90 then (if a < 900 then none else if a < 909 then (match k with
      | 0 => ab_go pc L (.ref (a + 20) :: R)
      | 1 => ab_go pc L (.int 0 :: R)
      | _ => none) else none) else none
  | _ => none
/-- whether a field of this type takes the value as it is -/
def ab_fit : FieldType → Value → Bool
  | .int, .int _ => true
  | .long, .long _ => true
  | .boolean, .int x => decide (x = 0) || decide (x = 1)
  | .array _, .ref _ => true
  | .object _, .ref _ => true
  | _, _ => false
def ab_put (ci k pc : Nat) (ty : FieldType) (L : aL) (S : List Value) (h : aH) : Option aR := match S with
  | v :: .ref a :: R => match h[a]? with
    | some (.inr (c, fs)) => if c = ci then (if k < fs.length then (if ab_fit ty v then ab_wr pc L R a (.inr (c, fs.set k v)) else none) else none) else none
    | _ => none
  | _ => none
def ab_ial (pc : Nat) (L : aL) (S : List Value) (h : aH) : Option aR := match S with
  | .int i :: .ref a :: R => match h[a]? with
    | some (.inl (1, n, .inl f)) => bif ab_in i n then ab_go pc L (.int (f i.toNatClampNeg) :: R) else none
    | _ => none
  | _ => none
def ab_bal (pc : Nat) (L : aL) (S : List Value) (h : aH) : Option aR := match S with
  | .int i :: .ref a :: R => match h[a]? with
    | some (.inl (0, n, .inl f)) => bif ab_in i n then ab_go pc L (.int (f i.toNatClampNeg) :: R) else none
    | some (.inl (3, n, .inl f)) => bif ab_in i n then ab_go pc L (.int (f i.toNatClampNeg) :: R) else none
    | some _ => none
    | none => if a < 920 then none else if a < 929 then (bif ab_in i (ab_str.getD (a - 920) []).length then ab_go pc L (.int ((ab_str.getD (a - 920) []).getD i.toNatClampNeg 0) :: R) else none) else none
  | _ => none
def ab_lal (pc : Nat) (L : aL) (S : List Value) (h : aH) : Option aR := match S with
  | .int i :: .ref a :: R => match h[a]? with
    | some (.inl (2, n, .inr (.inl f))) => bif ab_in i n then ab_go pc L (.long (f i.toNatClampNeg) :: R) else none
    | some _ => none
    | none => if a = 950 then (bif ab_in i 6 then ab_go pc L (.long (ab_low.getD i.toNatClampNeg 0) :: R) else none) else none
  | _ => none
def ab_aal (pc : Nat) (L : aL) (S : List Value) (h : aH) : Option aR := match S with
  | .int i :: .ref a :: R => match h[a]? with
    | some (.inl (4, n, .inr (.inr (.inr (.inr f))))) => bif ab_in i n then (match f i.toNatClampNeg with
      | some q => ab_go pc L (.ref q :: R)
      | none => none) else none
    | some (.inl (5, n, .inr (.inr (.inr (.inr f))))) => bif ab_in i n then (match f i.toNatClampNeg with
      | some q => ab_go pc L (.ref q :: R)
      | none => none) else none
    | _ => none
  | _ => none
def ab_ias (pc : Nat) (L : aL) (S : List Value) (h : aH) : Option aR := match S with
  | .int x :: .int i :: .ref a :: R => match h[a]? with
    | some (.inl (1, n, .inl f)) => bif ab_in i n then ab_wr pc L R a (.inl (1, n, .inl (upd f i.toNatClampNeg x))) else none
    | _ => none
  | _ => none
def ab_bas (pc : Nat) (L : aL) (S : List Value) (h : aH) : Option aR := match S with
  | .int x :: .int i :: .ref a :: R => match h[a]? with
    | some (.inl (0, n, .inl f)) => bif ab_in i n then ab_wr pc L R a (.inl (0, n, .inl (upd f i.toNatClampNeg (vp_nar .byte x)))) else none
    | some (.inl (3, n, .inl f)) => bif ab_in i n then ab_wr pc L R a (.inl (3, n, .inl (upd f i.toNatClampNeg (vp_nar .boolean x)))) else none
    | _ => none
  | _ => none
def ab_las (pc : Nat) (L : aL) (S : List Value) (h : aH) : Option aR := match S with
  | .long x :: .int i :: .ref a :: R => match h[a]? with
    | some (.inl (2, n, .inr (.inl f))) => bif ab_in i n then ab_wr pc L R a (.inl (2, n, .inr (.inl (vp_updL f i.toNatClampNeg x)))) else none
    | _ => none
  | _ => none
/-- which kind of array holds objects of a kind -/
def ab_of (t ci : Nat) : Bool := (Nat.beq t 4 && Nat.beq ci 0) || (Nat.beq t 5 && Nat.beq ci 5)
def ab_aas (pc : Nat) (L : aL) (S : List Value) (h : aH) : Option aR := match S with
  | .ref v :: .int i :: .ref a :: R => match h[a]?, h[v]? with
    | some (.inl (t, n, .inr (.inr (.inr (.inr f))))), some (.inr (ci, _)) => bif ab_of t ci && ab_in i n then ab_wr pc L R a (.inl (t, n, .inr (.inr (.inr (.inr (va_up f i.toNatClampNeg (some v))))))) else none
    | _, _ => none
  | _ => none
def ab_len (pc : Nat) (L : aL) (S : List Value) (h : aH) : Option aR := match S with
  | .ref a :: R => match h[a]? with
    | some (.inl (t, n, _)) => if t < 6 then ab_go pc L (.int (Int32.ofNat n) :: R) else none
    | some (.inr _) => none
    | none => if a = 950 then ab_go pc L (.int 6 :: R) else if a < 920 then none else if a < 929 then ab_go pc L (.int (Int32.ofNat (ab_str.getD (a - 920) []).length) :: R) else none
  | _ => none
def ab_br (c : ClassFile.Cond) (tgt pc : Nat) (L : aL) (S : List Value) : Option aR := match S with
  | .int y :: .int x :: R => bif ab_cd c x y then ab_go tgt L R else ab_go pc L R
  | _ => none
def ab_bz (c : ClassFile.Cond) (tgt pc : Nat) (L : aL) (S : List Value) : Option aR := match S with
  | .int x :: R => bif ab_cd c x 0 then ab_go tgt L R else ab_go pc L R
  | _ => none
def ab_tsw (lo hi : Int) (ts : List Nat) (L : aL) (S : List Value) : Option aR := match S with
  | .int x :: R => if x.toInt < lo ∨ hi < x.toInt then (match ts[0]? with
      | some t => ab_go t L R
      | none => none) else (match ts[(x.toInt - lo).toNat + 1]? with
      | some t => ab_go t L R
      | none => none)
  | _ => none
/-- lookupswitch over 0 and 1 alone -/
def ab_lsw (ts : List Nat) (L : aL) (S : List Value) : Option aR := match S, ts with
  | .int x :: R, [d, t0, t1] => if x = 0 then ab_go t0 L R else if x = 1 then ab_go t1 L R else ab_go d L R
  | _, _ => none
/-- no ref to the number n -/
def ab_out (n : Nat) : Value → Bool
  | .ref k => Nat.blt k n || Nat.ble 900 k
  | _ => true
def ab_outL (n : Nat) (L : aL) : Bool := L.all fun o => match o with
  | some v => ab_out n v
  | none => true
def ab_outE (n : Nat) (e : va_E) : Bool := match e with
  | .inr (_, fs) => fs.all (ab_out n)
  | .inl (_, k, .inr (.inr (.inr (.inr f)))) => (List.range k).all fun j => match f j with
    | some q => ab_out n (.ref q)
    | none => true
  | .inl _ => true
def ab_mk (e : va_E) (pc : Nat) (L : aL) (R : List Value) (h : aH) : Option aR :=
  bif Nat.blt h.length 900 && ab_outL h.length L && R.all (ab_out h.length) && h.all (ab_outE h.length) then some (.inr (.inl ((pc, L, R), e))) else none
def ab_df : FieldType → Value
  | .long => .long 0
  | .array _ => .null
  | .object _ => .null
  | _ => .int 0
def ab_newa (t pc : Nat) (L : aL) (S : List Value) (h : aH) : Option aR := match S with
  | .int n :: R => if n < 0 then none else if n.toNatClampNeg ≤ 4000 then (match t with
    | 0 => ab_mk (.inl (0, n.toNatClampNeg, .inl (fun _ => 0))) pc L R h
    | 1 => ab_mk (.inl (1, n.toNatClampNeg, .inl (fun _ => 0))) pc L R h
    | 2 => ab_mk (.inl (2, n.toNatClampNeg, .inr (.inl (fun _ => 0)))) pc L R h
    | 3 => ab_mk (.inl (3, n.toNatClampNeg, .inl (fun _ => 0))) pc L R h
    | _ => none) else none
  | _ => none
def ab_anew (t pc : Nat) (L : aL) (S : List Value) (h : aH) : Option aR := match S with
  | .int n :: R => if n < 0 then none else if n.toNatClampNeg ≤ 4000 then ab_mk (.inl (t, n.toNatClampNeg, .inr (.inr (.inr (.inr (fun _ => none)))))) pc L R h else none
  | _ => none
def ab_room (R : List Value) : Bool := Nat.ble (R.map ab_cat).sum 8
/-- the fields' types of a kind -/
def ab_tys (ci : Nat) : Nat × (Nat → FieldType) := match ci with
  | 0 => (3, tyX0)
  | 1 => (7, tyX1)
  | 2 => (5, tyX2)
  | 3 => (8, tyX3)
  | 4 => (7, tyX4)
  | 5 => (3, tyX5)
  | 6 => (2, tyX6)
  | 7 => (2, tyX7)
  | 8 => (9, tyX8)
  | 9 => (33, tyX9)
  | _ => (0, tyX0)
/-- a call of an own method: how many arguments it takes, and the kind of its receiver -/
def ab_inv (n ci j pc : Nat) (L : aL) (S : List Value) (h : aH) : Option aR :=
  bif Nat.ble n S.length then (match S.drop n with
    | .ref b :: R => bif ab_room R then (match h[b]? with
      | some (.inr (c, _)) => if c = ci then some (.inr (.inr (.inr ((pc, L, R), j, .ref b :: (S.take n).reverse)))) else none
      | some (.inl _) => none
      | none => if ci = 90 then (if b < 900 then none else if b < 909 then some (.inr (.inr (.inr ((pc, L, R), j, .ref b :: (S.take n).reverse)))) else none) else none) else none
    | _ => none) else none
def ab_ins (n j pc : Nat) (L : aL) (S : List Value) : Option aR :=
  bif Nat.ble n S.length && ab_room (S.drop n) then some (.inr (.inr (.inr ((pc, L, S.drop n), j, (S.take n).reverse)))) else none
def ab_inz (n j pc : Nat) (L : aL) (S : List Value) : Option aR :=
  bif Nat.ble n S.length then (match S.drop n with
    | .ref b :: R => bif ab_room R then some (.inr (.inr (.inr ((pc, L, R), j, .ref b :: (S.take n).reverse)))) else none
    | _ => none) else none
/-- Object's constructor -/
def ab_obj (pc : Nat) (L : aL) (S : List Value) : Option aR := match S with
  | .ref _ :: R => bif ab_room R then ab_go pc L R else none
  | _ => none
/-- String.checkIndex -/
def ab_chk (pc : Nat) (L : aL) (S : List Value) : Option aR := match S with
  | .int n :: .int i :: R => bif ab_room R && !decide (i < 0) && decide (i < n) then ab_go pc L R else none
  | _ => none
def ab_reti (rt : Option FieldType) (S : List Value) : Option aR := match rt, S with
  | some .int, [.int x] => some (.inr (.inr (.inl (some (.int x)))))
  | some .boolean, [.int x] => if narrow .boolean (.int x) = .int x then some (.inr (.inr (.inl (some (.int x))))) else none
  | some .byte, [.int x] => if narrow .byte (.int x) = .int x then some (.inr (.inr (.inl (some (.int x))))) else none
  | some .char, [.int x] => if narrow .char (.int x) = .int x then some (.inr (.inr (.inl (some (.int x))))) else none
  | _, _ => none
def ab_retl (rt : Option FieldType) (S : List Value) : Option aR := match rt, S with
  | some .long, [.long x] => some (.inr (.inr (.inl (some (.long x)))))
  | _, _ => none
def ab_retv (rt : Option FieldType) (S : List Value) : Option aR := match rt, S with
  | none, [] => some (.inr (.inr (.inl none)))
  | _, _ => none
/-- one instruction; 'nf' tells of a method: how many arguments, its kind, its locals -/
def ab_stp (nf : Nat → Nat × Nat × Nat) (rt : Option FieldType) (e : aE) (pc : Nat) (L : aL) (S : List Value) (h : aH) : Option aR := match e.1 with
  | .iconst n => ab_go (pc + 1) L (.int (ab_k n) :: S)
  | .bipush n => ab_go (pc + 2) L (.int (ab_k n) :: S)
  | .sipush n => ab_go (pc + 3) L (.int (ab_k n) :: S)
  | .lconst n => ab_go (pc + 1) L (.long (OfNat.ofNat n.val) :: S)
  | .iload_n k => ab_ldi k.val (pc + 1) L S
  | .iload k => ab_ldi k (pc + 2) L S
  | .lload_n k => ab_ldl k.val (pc + 1) L S
  | .lload k => ab_ldl k (pc + 2) L S
  | .aload_n k => ab_lda k.val (pc + 1) L S
  | .aload k => ab_lda k (pc + 2) L S
  | .istore_n k => ab_sti k.val (pc + 1) L S
  | .istore k => ab_sti k (pc + 2) L S
  | .lstore_n k => ab_stl k.val (pc + 1) L S
  | .lstore k => ab_stl k (pc + 2) L S
  | .astore_n k => ab_sta k.val (pc + 1) L S
  | .astore k => ab_sta k (pc + 2) L S
  | .iinc k n => ab_inc k n (pc + 3) L S
  | .iadd => ab_ii (fun x y => x + y) pc L S
  | .isub => ab_ii (fun x y => x - y) pc L S
  | .imul => ab_ii (fun x y => x * y) pc L S
  | .iand => ab_ii (fun x y => x &&& y) pc L S
  | .ior => ab_ii (fun x y => x ||| y) pc L S
  | .ishl => ab_ii (fun x y => x <<< (y &&& 31)) pc L S
  | .ishr => ab_ii (fun x y => x >>> (y &&& 31)) pc L S
  | .iushr => ab_ii (fun x y => (x.toUInt32 >>> (y.toUInt32 &&& Int32.toUInt32 31)).toInt32) pc L S
  | .idiv => ab_dv (fun x y => x / y) pc L S
  | .irem => ab_dv (fun x y => x - x / y * y) pc L S
  | .i2l => ab_i1 (fun x => .long x.toInt64) pc L S
  | .i2b => ab_i1 (fun x => .int x.toInt8.toInt32) pc L S
  | .i2s => ab_i1 (fun x => .int x.toInt16.toInt32) pc L S
  | .i2c => ab_i1 (fun x => .int (x.toUInt32 % 65536).toInt32) pc L S
  | .l2i => ab_l1 (fun x => .int x.toInt32) pc L S
  | .lneg => ab_l1 (fun x => .long (-x)) pc L S
  | .ladd => ab_ll (fun x y => .long (x + y)) pc L S
  | .lsub => ab_ll (fun x y => .long (x - y)) pc L S
  | .land => ab_ll (fun x y => .long (x &&& y)) pc L S
  | .lor => ab_ll (fun x y => .long (x ||| y)) pc L S
  | .lxor => ab_ll (fun x y => .long (x ^^^ y)) pc L S
  | .lcmp => ab_ll (fun x y => .int (lg_cmp x y)) pc L S
  | .lshl => ab_li (fun x y => x <<< (y.toInt64 &&& 63)) pc L S
  | .lshr => ab_li (fun x y => x >>> (y.toInt64 &&& 63)) pc L S
  | .lushr => ab_li (fun x y => (x.toUInt64 >>> (y.toInt64.toUInt64 &&& Int64.toUInt64 63)).toInt64) pc L S
  | .dup => ab_dup (pc + 1) L S
  | .pop => ab_pop (pc + 1) L S
  | .dup2 => ab_dup2 (pc + 1) L S
  | .goto _ => (match e.2.2 with
    | t :: _ => ab_go t L S
    | [] => none)
  | .if_icmp c _ => (match e.2.2 with
    | t :: _ => ab_br c t (pc + 3) L S
    | [] => none)
  | .ifCond c _ => (match e.2.2 with
    | t :: _ => ab_bz c t (pc + 3) L S
    | [] => none)
  | .tableswitch _ lo hi _ => ab_tsw lo hi e.2.2 L S
  | .lookupswitch _ _ => ab_lsw e.2.2 L S
  | .ldc _ => (match e.2.2 with
    | [0, _, v] => ab_go (pc + 2) L (.int (Int32.ofNat v) :: S)
    | [k, _] => ab_go (pc + 2) L (.ref k :: S)
    | _ => none)
  | .ldc_w _ => (match e.2.2 with
    | [0, _, v] => ab_go (pc + 3) L (.int (Int32.ofNat v) :: S)
    | [k, _] => ab_go (pc + 3) L (.ref k :: S)
    | _ => none)
  | .ldc2_w _ => (match e.2.2 with
    | [_, _, v] => ab_go (pc + 3) L (.long (Int64.ofNat v) :: S)
    | _ => none)
  | .getfield _ => (match e.2.2 with
    | ci :: k :: _ => ab_fld ci k (pc + 3) L S h
    | _ => none)
  | .putfield _ => (match e.2.2 with
    | ci :: k :: _ => ab_put ci k (pc + 3) ((ab_tys ci).2 k) L S h
    | _ => none)
  | .getstatic _ => (match e.2.2 with
    | 950 :: _ => ab_go (pc + 3) L (.ref 950 :: S)
    | 951 :: _ => ab_go (pc + 3) L (.int 1 :: S)
    | _ => none)
  | .iaload => ab_ial (pc + 1) L S h
  | .baload => ab_bal (pc + 1) L S h
  | .laload => ab_lal (pc + 1) L S h
  | .aaload => ab_aal (pc + 1) L S h
  | .iastore => ab_ias (pc + 1) L S h
  | .bastore => ab_bas (pc + 1) L S h
  | .lastore => ab_las (pc + 1) L S h
  | .aastore => ab_aas (pc + 1) L S h
  | .arraylength => ab_len (pc + 1) L S h
  | .newarray _ => (match e.2.2 with
    | t :: _ => ab_newa t (pc + 2) L S h
    | _ => none)
  | .anewarray _ => (match e.2.2 with
    | t :: _ => ab_anew t (pc + 3) L S h
    | _ => none)
  | .new _ => (match e.2.2 with
    | ci :: _ => ab_mk (.inr (ci, (List.range (ab_tys ci).1).map fun k => ab_df ((ab_tys ci).2 k))) (pc + 3) L S h
    | _ => none)
  | .invokevirtual _ => (match e.2.2 with
    | j :: _ => ab_inv (nf j).1 (nf j).2.1 j (pc + 3) L S h
    | _ => none)
  | .invokestatic _ => (match e.2.2 with
    | 999 :: _ => ab_chk (pc + 3) L S
    | j :: _ => ab_ins (nf j).1 j (pc + 3) L S
    | _ => none)
  | .invokespecial _ => (match e.2.2 with
    | 998 :: _ => ab_obj (pc + 3) L S
    | j :: _ => ab_inz (nf j).1 j (pc + 3) L S
    | _ => none)
  | .ireturn => ab_reti rt S
  | .lreturn => ab_retl rt S
  | .return_ => ab_retv rt S
  | _ => none
/-- a method's locals at its entry -/
def ab_slots : List Value → aL
  | [] => []
  | v :: vs => bif Nat.beq (ab_cat v) 2 then some v :: none :: ab_slots vs else some v :: ab_slots vs
def ab_ent (n : Nat) (vs : List Value) : aL := ab_slots vs ++ List.replicate (n - (ab_slots vs).length) none
def ab_set (h : aH) : Option (Nat × va_E) → aH
  | none => h
  | some (a, e) => h.set a e
/-- the run of a method, n instructions at most each, d calls deep -/
def ab_rn (nf : Nat → Nat × Nat × Nat) (mt : Nat → Option FieldType × List (List (Option aE))) : Nat → Nat → Nat → Nat → aL → List Value → aH → Option (Option Value × aH)
  | 0, _, _, _, _, _, _ => none
  | n + 1, d, mi, pc, L, S, h => match ab_look (mt mi).2 pc with
    | none => none
    | some e => match ab_stp nf (mt mi).1 e pc L S h with
      | none => none
      | some (.inl ((pc', L', S'), w)) => ab_rn nf mt n d mi pc' L' S' (ab_set h w)
      | some (.inr (.inl ((pc', L', S'), c))) => ab_rn nf mt n d mi pc' L' (.ref h.length :: S') (h ++ [c])
      | some (.inr (.inr (.inl v))) => some (v, h)
      | some (.inr (.inr (.inr ((pc', L', S'), j, As)))) => match d with
        | 0 => none
        | d' + 1 => bif Nat.ble (ab_slots As).length (nf j).2.2 then (match ab_rn nf mt n d' j 0 (ab_ent (nf j).2.2 As) [] h with
          | none => none
          | some (v, h') => bif Nat.beq h'.length h.length || (ab_outL h.length L' && S'.all (ab_out h.length)) then ab_rn nf mt n (d' + 1) mi pc' L' (v.toList ++ S') h' else none) else none
def ab_sz : va_E → Nat
  | .inl (_, n, _) => n
  | .inr (_, fs) => fs.length
def ab_hs (h : aH) : Nat := (h.map ab_sz).sum
