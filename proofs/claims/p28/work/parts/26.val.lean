section STV
/-! values: fractions z / m on a stack; nothing once it is broken -/
abbrev iL (z : Int) : Int64 := Int64.ofInt z
def oB (q : Int32) : Prop := q = 42 ∨ q = 47 ∨ q = 43 ∨ q = 45
abbrev Fq : Type := Int × Nat
def nix (c : Int32) : Option Nat := match f_X10_nameOf c uM0 with
  | some p => if p.1 < 0 then none else some (nn p.1)
  | none => none
/-- in least terms, if neither part is above the bound -/
def red (z : Int) (m : Nat) : Option Fq := if 1000000000 < (z.tdiv (Nat.gcd m z.natAbs : Int)).natAbs ∨ 1000000000 < m / Nat.gcd m z.natAbs then none else some (z.tdiv (Nat.gcd m z.natAbs : Int), m / Nat.gcd m z.natAbs)
def fop (q : Int32) (x y : Fq) : Option Fq :=
  if q = 43 then red (x.1 * y.2 + y.1 * x.2) (x.2 * y.2)
  else if q = 45 then red (x.1 * y.2 - y.1 * x.2) (x.2 * y.2)
  else if q = 42 then red (x.1 * y.1) (x.2 * y.2)
  else if q = 47 then (if y.1 = 0 then none else if y.1 < 0 then red (-x.1 * y.2) (x.2 * y.1.natAbs) else red (x.1 * y.2) (x.2 * y.1.natAbs))
  else if q = 60 then (if x.1 * y.2 ≤ y.1 * x.2 then red x.1 x.2 else red y.1 y.2)
  else (if y.1 * x.2 ≤ x.1 * y.2 then red x.1 x.2 else red y.1 y.2)
def ecd (N : Nat → Fq) (o : Option (List Fq)) (c : Int32) : Option (List Fq) := match o with
  | none => none
  | some S => if 0 ≤ c then some ((c.toInt, 1) :: S) else match nix (-c) with
    | some r => some (N r :: S)
    | none => match S with
      | y :: x :: S2 => (fop (-c) x y).map (fun f => f :: S2)
      | _ => none
def evl (N : Nat → Fq) (D : List Int32) : Option (List Fq) := D.foldl (ecd N) (some [])
def dpc (o : Option Nat) (c : Int32) : Option Nat := match o with
  | none => none
  | some h => if 0 ≤ c then some (h + 1) else match nix (-c) with
    | some _ => some (h + 1)
    | none => match h with
      | h2 + 2 => some (h2 + 1)
      | _ => none
def dpl (D : List Int32) : Option Nat := D.foldl dpc (some 0)
/-- the bounds of a fraction -/
def fb (f : Fq) : Prop := -1000000000 ≤ f.1 ∧ f.1 ≤ 1000000000 ∧ 1 ≤ f.2 ∧ f.2 ≤ 1000000000
/-- a code: a number, a name or a sign -/
def okc (c : Int32) : Prop := (0 ≤ c ∧ c.toInt < 1000000) ∨ (¬ 0 ≤ c ∧ ((∃ r : Nat, r < 7 ∧ nix (-c) = some r) ∨ (oB (-c) ∨ -c = 60 ∨ -c = 62)))
end STV
