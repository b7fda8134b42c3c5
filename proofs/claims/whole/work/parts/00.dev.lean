abbrev mE : Type := va_G × ClassId × ClassId × ClassId × ClassId × Nat × Nat × Nat × (Nat → Nat) × (Nat → Nat)
def mSX : List String := ["pkvshw", "<=>", "pur ", "hirk ", "goal ", "fair ", "oal ", "air ", "ur ", "0123456789"]
def mSB : List (List Int32) := [[112, 107, 118, 115, 104, 119], [60, 61, 62], [112, 117, 114, 32], [104, 105, 114, 107, 32], [103, 111, 97, 108, 32], [102, 97, 105, 114, 32], [111, 97, 108, 32], [97, 105, 114, 32], [117, 114, 32], [48, 49, 50, 51, 52, 53, 54, 55, 56, 57]]
def mSL : List Nat := [6, 3, 4, 5, 5, 5, 4, 4, 3, 10]
def mKA : List Int32 := [-1, 0, 0, 0, 1, 2, 3]
def mFA : List Int32 := [1, 1, 2, 6, 24, 120, 720]
def m_N : Nat := 2000
def jp {K β : Type} (k : K) (f : K → β) : β := f k
def mIn (i : Int32) (n : Nat) : Bool := decide (¬ (i < 0 ∨ n ≤ i.toNatClampNeg))
theorem mIn_ok {i : Int32} {n : Nat} (h : mIn i n = true) : vp_in i n := (of_decide_eq_true h : ¬ (i < 0 ∨ n ≤ i.toNatClampNeg))
def mBit (x : Int32) : Bool := decide (x = 0 ∨ x = 1)
def mMin (x y : Int32) : Int32 := if y < x then y else x
def mMax (x y : Int32) : Int32 := if x < y then y else x
def mAbs (x : Int32) : Int32 := if 0 ≤ x then x else 0 - x
def mAbsL (x : Int64) : Int64 := if 0 < x then x else -x
def m_opt {α β : Type} (x : Option α) (e1 : β) (e2 : α → β) : β := match x with
  | none => e1
  | some r => e2 r
def m_allB (f : Nat → Int32) (n : Int32) : Bool := (List.range n.toNatClampNeg).all (fun i => fits .byte (.int (f i)))
def mRem (x y : Int32) : Int32 := x - x / y * y
def mRemL (x y : Int64) : Int64 := x - x / y * y
