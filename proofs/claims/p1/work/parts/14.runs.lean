/-! ===== the runs: the two constructors, and each call on the fresh objects ===== -/
noncomputable def xr1 : xR := (xex xsg xpr 10 0 [.ref 0] [.inr (11, xdf11)]).getD (none, [], 0, 0)
noncomputable def xr2 : xR := (xex xsg xpr 10 54 [.ref 213] (xr1.2.1 ++ [.inr (12, xdf12)])).getD (none, [], 0, 0)
/-- the cells behind the constructors: the class's object at place 0, the reference's at place 213 -/
noncomputable def xh2 : xH := xr2.2.1
/-- an object's fields -/
def xobj (h : xH) (k : Nat) : Option (Nat × List Value) := match h[k]? with
  | some (.inr q) => some q
  | _ => none
def xarr (h : xH) (k : Nat) : Option (Nat × Nat) := match h[k]? with
  | some (.inl (t, n, .inl _)) => some (t, n)
  | _ => none
/-- what a call of the class and then the same call of the reference answer and make -/
noncomputable def xan (i : Nat) (vs : List Value) (i' : Nat) (vs' : List Value) : Option ((Option Value × Nat × Nat) × (Option Value × Nat × Nat) × Option Nat) := match xex xsg xpr 10 i vs xh2 with
  | some r1 => match xex xsg xpr 10 i' vs' r1.2.1 with
    | some r2 => some ((r1.1, r1.2.2), (r2.1, r2.2.2), (xobj r1.2.1 213).map (fun q => q.1))
    | none => none
  | none => none
def xf_0 : List Value := [.ref 1, .ref 75, .ref 82, .ref 83, .ref 84, .ref 85, .ref 105, .ref 197, .ref 206, .ref 3, .ref 39, .int 0, .int 0]
def xf_1 : List Value := [.int 4000, .ref 2, .int 0]
def xf_105 : List Value := [.ref 75, .ref 106, .ref 108, .ref 110, .ref 111, .ref 3, .int 0, .int 0, .int 0, .int 0, .int 0, .int 0, .int 0, .int 5, .int 0]
def xf_197 : List Value := [.ref 75, .ref 198, .ref 200, .ref 202, .ref 204, .ref 3, .ref 21, .int 0, .int 0, .int 0, .int 0]
def xf_206 : List Value := [.ref 207, .ref 209, .ref 211, .ref 3]
def xf_207 : List Value := [.int 2000, .ref 208, .int 0]
def xf_213 : List Value := [.int 0, .ref 214, .int 0, .int 0, .ref 215, .ref 216, .ref 217, .int 0, .int 0, .int 0, .ref 218, .ref 219, .ref 220, .ref 1000000, .ref 221, .ref 222, .ref 223, .ref 224, .ref 225, .ref 226, .ref 227, .ref 228, .ref 229, .ref 230, .ref 231, .ref 232, .int 0, .int 0, .int 0, .int 0, .int 0, .ref 233, .ref 234, .ref 235, .ref 236, .ref 237, .ref 238, .ref 239, .ref 240, .ref 241, .ref 242, .ref 243, .int 0, .ref 244, .ref 245, .ref 246, .ref 247, .ref 248, .ref 249, .ref 250, .ref 251, .ref 252, .ref 253, .ref 254, .ref 255, .ref 256, .ref 257, .ref 258, .ref 259, .ref 260, .ref 261, .ref 262, .ref 263, .ref 264, .int 0, .int 0, .ref 265, .ref 266, .ref 267, .ref 268, .int 0, .int 0, .int 0, .int 0, .int 0, .int 0, .int 0, .int 0, .int 0, .ref 269, .int 0, .int 0, .ref 270, .ref 271, .ref 272, .int 0, .int 0, .int 0, .ref 273, .ref 274, .int 0, .int (-1), .int (-1), .int 0, .int 0, .int 0, .int 0, .int 0, .int 0, .ref 275, .ref 276, .ref 277, .int 0, .int 0, .ref 278, .int 0, .int 0, .int 0, .int 0, .int (-1), .int 0, .int 0, .int 0, .ref 279, .ref 280, .ref 281, .ref 282, .ref 283, .int 0, .ref 284, .int 0, .ref 285, .ref 286, .ref 287, .int 0]
noncomputable def xck : List Bool := [decide ((xex xsg xpr 10 0 [.ref 0] [.inr (11, xdf11)]).isSome = true), decide ((xex xsg xpr 10 54 [.ref 213] (xr1.2.1 ++ [.inr (12, xdf12)])).isSome = true), decide (xr1.1 = none), decide (xr1.2.1.length = 213), decide (xr1.2.2 = (212, 54083)), decide (xr2.1 = none), decide (xh2.length = 288), decide (xr2.2.2 = (74, 613545)), decide (xobj xh2 0 = some (11, xf_0)), decide (xobj xh2 1 = some (6, xf_1)), decide (xobj xh2 105 = some (2, xf_105)), decide (xobj xh2 197 = some (8, xf_197)), decide (xobj xh2 206 = some (3, xf_206)), decide (xobj xh2 207 = some (6, xf_207)), decide (xobj xh2 213 = some (12, xf_213)), decide (xarr xh2 2 = some (0, 600)), decide (xarr xh2 214 = some (0, 4000)), decide (xan 2 [.ref 0] 71 [.ref 213] = some ((some (.int 1), 0, 0), (some (.int 1), 0, 0), some 12)), decide (xan 3 [.ref 0] 74 [.ref 213] = some ((some (.int (-1)), 0, 0), (some (.int (-1)), 0, 0), some 12)), decide (xan 5 [.ref 0] 76 [.ref 213] = some ((some (.int (-1)), 0, 0), (some (.int (-1)), 0, 0), some 12)), decide (xan 6 [.ref 0] 77 [.ref 213] = some ((some (.int 0), 0, 0), (some (.int 0), 0, 0), some 12)), decide (xan 7 [.ref 0] 78 [.ref 213] = some ((some (.int (-1)), 0, 0), (some (.int (-1)), 0, 0), some 12)), decide (xan 9 [.ref 0] 80 [.ref 213] = some ((some (.int (-1)), 0, 0), (some (.int (-1)), 0, 0), some 12)), decide (xan 12 [.ref 0, .int 0] 83 [.ref 213, .int 0] = some ((some (.int 0), 0, 0), (some (.int 0), 0, 0), some 12)), decide (xan 12 [.ref 0, .int 1] 83 [.ref 213, .int 1] = some ((some (.int 0), 0, 0), (some (.int 0), 0, 0), some 12)), decide (xan 12 [.ref 0, .int 2] 83 [.ref 213, .int 2] = some ((some (.int 0), 0, 0), (some (.int 0), 0, 0), some 12)), decide (xan 12 [.ref 0, .int 3] 83 [.ref 213, .int 3] = some ((some (.int 0), 0, 0), (some (.int 0), 0, 0), some 12)), decide (xan 12 [.ref 0, .int 4] 83 [.ref 213, .int 4] = some ((some (.int 0), 0, 0), (some (.int 0), 0, 0), some 12)), decide (xan 12 [.ref 0, .int 5] 83 [.ref 213, .int 5] = some ((some (.int 0), 0, 0), (some (.int 0), 0, 0), some 12)), decide (xan 10 [.ref 0, .int 0] 81 [.ref 213, .int 0] = some ((some (.int (-1)), 0, 0), (some (.int (-1)), 0, 0), some 12)), decide (xan 10 [.ref 0, .int 1] 81 [.ref 213, .int 1] = some ((some (.int (-1)), 0, 0), (some (.int (-1)), 0, 0), some 12))]
theorem xck_all : xck.all (fun b => b) = true := by decide +kernel
theorem xck_at {P : Prop} {inst : Decidable P} (i : Nat) (h : xck[i]? = some (@decide P inst)) : P := of_decide_eq_true (List.all_eq_true.mp xck_all _ (List.mem_of_getElem? h))
theorem xe_0 : (xex xsg xpr 10 0 [.ref 0] [.inr (11, xdf11)]).isSome = true := xck_at 0 rfl
theorem xe_1 : (xex xsg xpr 10 54 [.ref 213] (xr1.2.1 ++ [.inr (12, xdf12)])).isSome = true := xck_at 1 rfl
theorem xe_2 : xr1.1 = none := xck_at 2 rfl
theorem xe_3 : xr1.2.1.length = 213 := xck_at 3 rfl
theorem xe_4 : xr1.2.2 = (212, 54083) := xck_at 4 rfl
theorem xe_5 : xr2.1 = none := xck_at 5 rfl
theorem xe_6 : xh2.length = 288 := xck_at 6 rfl
theorem xe_7 : xr2.2.2 = (74, 613545) := xck_at 7 rfl
theorem xe_8 : xobj xh2 0 = some (11, xf_0) := xck_at 8 rfl
theorem xe_9 : xobj xh2 1 = some (6, xf_1) := xck_at 9 rfl
theorem xe_10 : xobj xh2 105 = some (2, xf_105) := xck_at 10 rfl
theorem xe_11 : xobj xh2 197 = some (8, xf_197) := xck_at 11 rfl
theorem xe_12 : xobj xh2 206 = some (3, xf_206) := xck_at 12 rfl
theorem xe_13 : xobj xh2 207 = some (6, xf_207) := xck_at 13 rfl
theorem xe_14 : xobj xh2 213 = some (12, xf_213) := xck_at 14 rfl
theorem xe_15 : xarr xh2 2 = some (0, 600) := xck_at 15 rfl
theorem xe_16 : xarr xh2 214 = some (0, 4000) := xck_at 16 rfl
theorem xe_17 : xan 2 [.ref 0] 71 [.ref 213] = some ((some (.int 1), 0, 0), (some (.int 1), 0, 0), some 12) := xck_at 17 rfl
theorem xe_18 : xan 3 [.ref 0] 74 [.ref 213] = some ((some (.int (-1)), 0, 0), (some (.int (-1)), 0, 0), some 12) := xck_at 18 rfl
theorem xe_19 : xan 5 [.ref 0] 76 [.ref 213] = some ((some (.int (-1)), 0, 0), (some (.int (-1)), 0, 0), some 12) := xck_at 19 rfl
theorem xe_20 : xan 6 [.ref 0] 77 [.ref 213] = some ((some (.int 0), 0, 0), (some (.int 0), 0, 0), some 12) := xck_at 20 rfl
theorem xe_21 : xan 7 [.ref 0] 78 [.ref 213] = some ((some (.int (-1)), 0, 0), (some (.int (-1)), 0, 0), some 12) := xck_at 21 rfl
theorem xe_22 : xan 9 [.ref 0] 80 [.ref 213] = some ((some (.int (-1)), 0, 0), (some (.int (-1)), 0, 0), some 12) := xck_at 22 rfl
theorem xe_23 : xan 12 [.ref 0, .int 0] 83 [.ref 213, .int 0] = some ((some (.int 0), 0, 0), (some (.int 0), 0, 0), some 12) := xck_at 23 rfl
theorem xe_24 : xan 12 [.ref 0, .int 1] 83 [.ref 213, .int 1] = some ((some (.int 0), 0, 0), (some (.int 0), 0, 0), some 12) := xck_at 24 rfl
theorem xe_25 : xan 12 [.ref 0, .int 2] 83 [.ref 213, .int 2] = some ((some (.int 0), 0, 0), (some (.int 0), 0, 0), some 12) := xck_at 25 rfl
theorem xe_26 : xan 12 [.ref 0, .int 3] 83 [.ref 213, .int 3] = some ((some (.int 0), 0, 0), (some (.int 0), 0, 0), some 12) := xck_at 26 rfl
theorem xe_27 : xan 12 [.ref 0, .int 4] 83 [.ref 213, .int 4] = some ((some (.int 0), 0, 0), (some (.int 0), 0, 0), some 12) := xck_at 27 rfl
theorem xe_28 : xan 12 [.ref 0, .int 5] 83 [.ref 213, .int 5] = some ((some (.int 0), 0, 0), (some (.int 0), 0, 0), some 12) := xck_at 28 rfl
theorem xe_29 : xan 10 [.ref 0, .int 0] 81 [.ref 213, .int 0] = some ((some (.int (-1)), 0, 0), (some (.int (-1)), 0, 0), some 12) := xck_at 29 rfl
theorem xe_30 : xan 10 [.ref 0, .int 1] 81 [.ref 213, .int 1] = some ((some (.int (-1)), 0, 0), (some (.int (-1)), 0, 0), some 12) := xck_at 30 rfl
