/-! signs -/
def isLt (c : Int) : Bool := (decide (97 ≤ c) && decide (c ≤ 122)) || (decide (65 ≤ c) && decide (c ≤ 90))
def isDg (c : Int) : Bool := decide (48 ≤ c) && decide (c ≤ 57)
def layc (x : Int64) (a3 n : Int32) : Int32 := if ((((Int64.toInt32 (x >>> (a3.toInt64 &&& 63))) &&& 255).toInt = 10) ∨ (¬ (((Int64.toInt32 (x >>> (a3.toInt64 &&& 63))) &&& 255).toInt < 32) ∧ ¬ (126 < ((Int64.toInt32 (x >>> (a3.toInt64 &&& 63))) &&& 255).toInt))) ∧ ¬ 4000 ≤ n.toInt then n + 1 else n
def layn (x : Int64) : Nat → Int32 → Int32 → Int32
  | 0, _, n => n
  | k + 1, a3, n => layn x k (a3 + (-8)) (layc x a3 n)
def feedn (a b c : Int64) (n : Int32) : Int32 := layn c 8 56 (layn b 8 56 (layn a 8 56 n))
