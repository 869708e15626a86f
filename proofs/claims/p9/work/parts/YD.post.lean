/-! ===== the order of the double loop is the post-order ===== -/
section YPO
variable {ar : Int → Int} {G : Int → List (List Int) → Nat → List Int} {A B C D : List Int} {k : Int} {c : Int}
theorem bdO_cons (e : Nat) : ∀ n : Nat, bdO ar G (c :: D) (e + 1) (n + 1) = bdO ar (fun c' X j => G c' X (j + 1)) D e n ++ (if 0 < ar ((subT ar (c :: D) 0).headD 0) ∧ 0 + (subT ar (c :: D) 0).length = e + 1 then G ((subT ar (c :: D) 0).headD 0) (argT ar (subT ar (c :: D) 0)) 0 else [])
  | 0 => by
    show (if 0 < ar ((subT ar (c :: D) 0).headD 0) ∧ 0 + (subT ar (c :: D) 0).length = e + 1 then G ((subT ar (c :: D) 0).headD 0) (argT ar (subT ar (c :: D) 0)) 0 else []) ++ [] = [] ++ _
    rw [List.append_nil, List.nil_append]
  | n + 1 => by
    have ih := bdO_cons e n
    have es : subT ar (c :: D) (n + 1) = subT ar D n := rfl
    show (if 0 < ar ((subT ar (c :: D) (n + 1)).headD 0) ∧ n + 1 + (subT ar (c :: D) (n + 1)).length = e + 1 then G ((subT ar (c :: D) (n + 1)).headD 0) (argT ar (subT ar (c :: D) (n + 1))) (n + 1) else []) ++ bdO ar G (c :: D) (e + 1) (n + 1) = ((if 0 < ar ((subT ar D n).headD 0) ∧ n + (subT ar D n).length = e then G ((subT ar D n).headD 0) (argT ar (subT ar D n)) (n + 1) else []) ++ bdO ar (fun c' X j => G c' X (j + 1)) D e n) ++ _
    rw [ih, es, List.append_assoc]
    congr 1
    by_cases h : 0 < ar ((subT ar D n).headD 0) ∧ n + (subT ar D n).length = e
    · rw [if_pos h, if_pos ⟨h.1, by omega⟩]
    · rw [if_neg h, if_neg (fun q => h ⟨q.1, by omega⟩)]
theorem bdD_lt : ∀ m : Nat, m + 1 < (subT ar (c :: D) 0).length → bdD ar G (c :: D) (m + 1) = bdD ar (fun c' X j => G c' X (j + 1)) D m
  | 0, h => by
    show [] ++ bdO ar G (c :: D) (0 + 1) (0 + 1) = []
    rw [List.nil_append, bdO_cons, if_neg (fun q => by omega), List.append_nil]
    rfl
  | m + 1, h => by
    show bdD ar G (c :: D) (m + 1) ++ bdO ar G (c :: D) (m + 1 + 1) (m + 1 + 1) = bdD ar (fun c' X j => G c' X (j + 1)) D m ++ bdO ar (fun c' X j => G c' X (j + 1)) D (m + 1) (m + 1)
    rw [bdD_lt m (by omega), bdO_cons, if_neg (fun q => by omega), List.append_nil]
/-- a TYPE: what stands within it, then itself -/
theorem bdD_cons (hA : isR ar 1 (c :: D)) : bdD ar G (c :: D) (D.length + 1) = bdD ar (fun c' X j => G c' X (j + 1)) D D.length ++ (if 0 < ar c then G c (argT ar (c :: D)) 0 else []) := by
  have e0 : subT ar (c :: D) 0 = c :: D := by
    have := tkT_app (a := ar) (c :: D) [] 1 hA
    rw [List.append_nil] at this
    show (tkT ar 1 (c :: D)).1 = _
    rw [this]
  have e1 : bdD ar G (c :: D) D.length ++ bdO ar (fun c' X j => G c' X (j + 1)) D D.length D.length = bdD ar (fun c' X j => G c' X (j + 1)) D D.length := by
    cases hl : D.length with
    | zero => rfl
    | succ m =>
      rw [bdD_lt m (by rw [e0, List.length_cons]; omega)]
      rfl
  show bdD ar G (c :: D) D.length ++ bdO ar G (c :: D) (D.length + 1) (D.length + 1) = _
  rw [bdO_cons, ← List.append_assoc, e1, e0]
  congr 1
  show (if 0 < ar c ∧ 0 + (D.length + 1) = D.length + 1 then G c (argT ar (c :: D)) 0 else []) = _
  by_cases h : 0 < ar c
  · rw [if_pos h, if_pos ⟨h, by omega⟩]
  · rw [if_neg h, if_neg (fun q => h q.1)]
end YPO
