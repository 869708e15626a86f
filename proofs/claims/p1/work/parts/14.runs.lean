/-! ===== the runs: the two constructors, and each call on the fresh objects ===== -/
noncomputable def xr1 : xR := (xex xsg xpr 10 0 [.ref 0] [.inr (11, xdf11)]).getD (none, [], 0, 0)
noncomputable def xr2 : xR := (xex xsg xpr 10 54 [.ref 213] (xr1.2.1 ++ [.inr (12, xdf12)])).getD (none, [], 0, 0)
/-- the cells behind the constructors: the class's object at place 0, the reference's at place 213 -/
noncomputable def xh2 : xH := xr2.2.1
/-- an object's fields -/
def xobj (h : xH) (k : Nat) : Option (Nat × List Value) := match h[k]? with
  | some (.inr q) => some q
  | _ => none
def xarr (h : xH) (k : Nat) : Option (Nat × Nat) := match h[k]? with
  | some (.inl (t, n, .inl _)) => some (t, n)
  | _ => none
/-- what a call answers -/
noncomputable def xan (i : Nat) (vs : List Value) : Option (Option Value) := (xex xsg xpr 10 i vs xh2).map (fun r => r.1)
theorem xr_all : ((xex xsg xpr 10 0 [.ref 0] [.inr (11, xdf11)]).isSome = true ∧ (xex xsg xpr 10 54 [.ref 213] (xr1.2.1 ++ [.inr (12, xdf12)])).isSome = true) ∧ (xr1.1 = none ∧ xr1.2.1.length = 213 ∧ xr1.2.2 = (212, 54083) ∧ xr2.1 = none ∧ xh2.length = 288 ∧ xr2.2.2 = (74, 613545)) ∧ (xan 2 [.ref 0] = some (some (.int 1)) ∧ xan 3 [.ref 0] = some (some (.int (-1))) ∧ xan 9 [.ref 0] = some (some (.int (-1)))) ∧ (xan 71 [.ref 213] = some (some (.int 1)) ∧ xan 74 [.ref 213] = some (some (.int (-1))) ∧ xan 80 [.ref 213] = some (some (.int (-1)))) := by decide +kernel
