/-! what the code tables are made of: an instruction, its length, what it names -/
abbrev aE : Type := Instr × Nat × List Nat
def ab_k (n : Int) : Int32 := match n with
  | .ofNat k => OfNat.ofNat k
  | .negSucc k => -(OfNat.ofNat (k + 1))
def ab_look (K : List (List (Option aE))) (pc : Nat) : Option aE := match K[pc / 16]? with
  | some l => (match l[pc % 16]? with
    | some e => e
    | none => none)
  | none => none
