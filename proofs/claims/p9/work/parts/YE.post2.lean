/-! ===== the order of the double loop: TYPES side by side ===== -/
section YPP
variable {ar : Int → Int} {G : Int → List (List Int) → Nat → List Int} {B C : List Int} {k : Int}
theorem drop_len {α : Type} {l' : List α} {n : Nat} : ∀ l : List α, (l ++ l').drop (l.length + n) = l'.drop n
  | [] => by
    show l'.drop (0 + n) = _
    rw [Nat.zero_add]
  | a :: l => by
    rw [List.length_cons, show l.length + 1 + n = l.length + n + 1 by omega]
    exact drop_len l
theorem subT_app (ha : ∀ c, 0 ≤ ar c) (hB : isR ar k B) {j : Nat} (hj : j < B.length) : subT ar (B ++ C) j = subT ar B j ∧ j + (subT ar B j).length ≤ B.length := by
  obtain ⟨r1, r2, -⟩ := subT_ok ha hB (List.getElem?_eq_getElem hj)
  obtain ⟨T, hT⟩ : ∃ T, subT ar B j = T := ⟨_, rfl⟩
  obtain ⟨R, hR⟩ : ∃ R, (tkT ar 1 (B.drop j)).2 = R := ⟨_, rfl⟩
  rw [hT, hR] at r2
  rw [hT] at r1
  rw [hT]
  refine ⟨?_, ?_⟩
  · show (tkT ar 1 ((B ++ C).drop j)).1 = T
    rw [List.drop_append_of_le_length (by omega), r2, List.append_assoc, tkT_app T _ 1 r1]
  · have := congrArg List.length r2
    rw [List.length_drop, List.length_append] at this
    omega
theorem bdO_lo (ha : ∀ c, 0 ≤ ar c) (hB : isR ar k B) (e : Nat) : ∀ n : Nat, n ≤ B.length → bdO ar G (B ++ C) e n = bdO ar G B e n
  | 0, _ => rfl
  | n + 1, h => by
    have ih := bdO_lo ha hB e n (by omega)
    show (if 0 < ar ((subT ar (B ++ C) n).headD 0) ∧ n + (subT ar (B ++ C) n).length = e then G ((subT ar (B ++ C) n).headD 0) (argT ar (subT ar (B ++ C) n)) n else []) ++ bdO ar G (B ++ C) e n = (if 0 < ar ((subT ar B n).headD 0) ∧ n + (subT ar B n).length = e then G ((subT ar B n).headD 0) (argT ar (subT ar B n)) n else []) ++ bdO ar G B e n
    rw [ih, (subT_app ha hB (by omega)).1]
theorem bdO_no (ha : ∀ c, 0 ≤ ar c) (hB : isR ar k B) {e : Nat} (he : B.length < e) : ∀ n : Nat, n ≤ B.length → bdO ar G B e n = []
  | 0, _ => rfl
  | n + 1, h => by
    have ih := bdO_no ha hB he n (by omega)
    have h2 := (subT_app (C := []) ha hB (show n < B.length by omega)).2
    show (if 0 < ar ((subT ar B n).headD 0) ∧ n + (subT ar B n).length = e then G ((subT ar B n).headD 0) (argT ar (subT ar B n)) n else []) ++ bdO ar G B e n = []
    rw [ih, if_neg (fun q => by omega)]
    rfl
theorem bdO_hi (e : Nat) : ∀ n : Nat, bdO ar G (B ++ C) (B.length + e) (B.length + n) = bdO ar (fun c X j => G c X (B.length + j)) C e n ++ bdO ar G (B ++ C) (B.length + e) B.length
  | 0 => rfl
  | n + 1 => by
    have ih := bdO_hi e n
    have es : subT ar (B ++ C) (B.length + n) = subT ar C n := by
      unfold subT
      rw [drop_len]
    show (if 0 < ar ((subT ar (B ++ C) (B.length + n)).headD 0) ∧ B.length + n + (subT ar (B ++ C) (B.length + n)).length = B.length + e then G ((subT ar (B ++ C) (B.length + n)).headD 0) (argT ar (subT ar (B ++ C) (B.length + n))) (B.length + n) else []) ++ bdO ar G (B ++ C) (B.length + e) (B.length + n) = ((if 0 < ar ((subT ar C n).headD 0) ∧ n + (subT ar C n).length = e then G ((subT ar C n).headD 0) (argT ar (subT ar C n)) (B.length + n) else []) ++ bdO ar (fun c X j => G c X (B.length + j)) C e n) ++ _
    rw [ih, es, List.append_assoc]
    congr 1
    by_cases h : 0 < ar ((subT ar C n).headD 0) ∧ n + (subT ar C n).length = e
    · rw [if_pos h, if_pos ⟨h.1, by omega⟩]
    · rw [if_neg h, if_neg (fun q => h ⟨q.1, by omega⟩)]
theorem bdD_lo (ha : ∀ c, 0 ≤ ar c) (hB : isR ar k B) : ∀ m : Nat, m ≤ B.length → bdD ar G (B ++ C) m = bdD ar G B m
  | 0, _ => rfl
  | m + 1, h => by
    show bdD ar G (B ++ C) m ++ bdO ar G (B ++ C) (m + 1) (m + 1) = bdD ar G B m ++ bdO ar G B (m + 1) (m + 1)
    rw [bdD_lo ha hB m (by omega), bdO_lo ha hB _ _ h]
/-- TYPES side by side: one behind the other -/
theorem bdD_app (ha : ∀ c, 0 ≤ ar c) (hB : isR ar k B) : ∀ m : Nat, bdD ar G (B ++ C) (B.length + m) = bdD ar G B B.length ++ bdD ar (fun c X j => G c X (B.length + j)) C m
  | 0 => by
    show bdD ar G (B ++ C) B.length = bdD ar G B B.length ++ []
    rw [List.append_nil, bdD_lo ha hB _ (Nat.le_refl _)]
  | m + 1 => by
    show bdD ar G (B ++ C) (B.length + m) ++ bdO ar G (B ++ C) (B.length + (m + 1)) (B.length + (m + 1)) = bdD ar G B B.length ++ (bdD ar (fun c X j => G c X (B.length + j)) C m ++ bdO ar (fun c X j => G c X (B.length + j)) C (m + 1) (m + 1))
    rw [bdD_app ha hB m, bdO_hi, bdO_lo ha hB _ _ (Nat.le_refl _), bdO_no ha hB (by omega) _ (Nat.le_refl _), List.append_nil, List.append_assoc]
end YPP
