abbrev hSt : Type := (Nat → Nat → Int32) × (Nat → Nat → Int64) × (Nat → Nat → Option Nat)
def sI (σ : hSt) (r j : Nat) (v : Int32) : hSt := (va_up σ.1 r (upd (σ.1 r) j v), σ.2)
def sJ (σ : hSt) (r j : Nat) (v : Int64) : hSt := (σ.1, va_up σ.2.1 r (vp_updL (σ.2.1 r) j v), σ.2.2)
def sR (σ : hSt) (r j : Nat) (v : Option Nat) : hSt := (σ.1, σ.2.1, va_up σ.2.2 r (va_up (σ.2.2 r) j v))
/-- what is made once and stays: the things, lengths, ints, references -/
abbrev hZ : Type := List Nat × (Nat → Nat) × (Nat → Nat → Int32) × (Nat → Nat → Option Nat)
def sLen : List Nat := [3, 4, 2, 9, 10]
def sByt : List (List Int32) := [[99, 100, 101], [105, 110, 107, 112], [115, 118], [116, 99, 119, 108, 105, 106, 110, 112, 121], [116, 99, 119, 108, 105, 106, 110, 112, 121, 107]]
def isSt (k : Nat) : Bool := decide (k < 5)
theorem isSt_lt {k : Nat} (h : isSt k = true) : k < 5 := of_decide_eq_true h
def slen (k : Nat) : Nat := sLen.getD k 0
def sch (k j : Nat) : Int32 := (sByt.getD k []).getD j 0
def isCo (r : Nat) : Bool := r == 14 || r == 15
def isRd (r : Nat) : Bool := r == 5 || r == 6
def jlen (r : Nat) : Nat := match r with
  | 8 => 64
  | 9 => 6
  | 10 => 101
  | 11 => 101
  | 13 => 10
  | 16 => 10
  | 17 => 10
  | 18 => 6
  | 19 => 6
  | 20 => 101
  | 21 => 101
  | 22 => 101
  | 23 => 101
  | 24 => 101
  | 25 => 101
  | 26 => 101
  | 27 => 101
  | 28 => 101
  | 29 => 101
  | 30 => 101
  | 31 => 101
  | 32 => 101
  | 33 => 101
  | 34 => 101
  | 35 => 101
  | _ => 0
def isJ (r : Nat) : Bool := 0 < jlen r
def isSa (Z : hZ) (r : Nat) : Bool := decide (r ∈ Z.1) && (r / 1000 == 1) && (decide (r + 1000 ∈ Z.1) && decide (r + 2000 ∈ Z.1))
def isAr (Z : hZ) (r : Nat) : Bool := decide (r ∈ Z.1) && (r / 1000 == 2 || r / 1000 == 3 || r / 1000 == 6 || r / 1000 == 7)
def isTe (Z : hZ) (r : Nat) : Bool := decide (r ∈ Z.1) && (r / 1000 == 4 || r / 1000 == 5) && decide (r + 2000 ∈ Z.1)
def isTa (Z : hZ) (r : Nat) : Bool := decide (r ∈ Z.1) && (r / 1000 == 8)
def isNe (Z : hZ) (r : Nat) : Bool := decide (r ∈ Z.1) && (r / 1000 == 9)
def isEl (Z : hZ) (r : Nat) : Bool := decide (r ∈ Z.1) && (r / 1000 == 10)
def isLi (r : Nat) : Bool := decide (38 ≤ r) && decide (r ≤ 42)
def oc {β : Type} (o : Option Nat) (n : β) (k : Nat → β) : β := match o with
  | none => n
  | some r => k r
def isBy (r : Nat) : Bool := r == 201 || r == 211
def blen (r : Nat) : Nat := if r = 201 then 200 else 4800
