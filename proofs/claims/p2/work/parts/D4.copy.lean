/-! ===== addMethod: what it copies ===== -/
section AM
variable {own : Nat → Nat × Nat} {b n N T F H S0 : Nat} {G : PG} {S O R M P E : Nat} {s u : yS}
/-- an element of a TYPE in scope is small -/
theorem vE_50 {sc : Nat → Prop} {x : Nat} (hT : gT G ≤ 24) (hsc : scC G H sc) (h : vE G sc x) : x ≤ 40007 := by
  rcases h with h | ⟨h1, h2, h3⟩
  · omega
  · have := (hsc _ h3).1
    rcases this with w | w | w
    · omega
    · omega
    · omega
/-- what openTypes keeps, element by element -/
theorem sg_at {q i : Nat} {A : List Nat} {sc : Nat → Prop} (hT : gT G ≤ 24) (hsc : scC G H sc) (hA : okE G sc A) (hs : sg s q A.length = A) (hi : i < A.length) : (s.2.1 270 (q + i)).toInt = (A.getD i 0 : Nat) ∧ A.getD i 0 ≤ 40007 := by
  have hget : A[i]? = some A[i] := List.getElem?_eq_getElem hi
  have h1 : (sg s q A.length)[i]? = some (if (s.2.1 270 (q + i)).toInt < 0 then 100000 else (s.2.1 270 (q + i)).toInt.toNat) := by
    unfold sg
    rw [List.getElem?_map, List.getElem?_range hi]
    rfl
  rw [hs, hget] at h1
  have h2 := Option.some.inj h1
  have h3 := vE_50 hT hsc (hA.2 A[i] (List.getElem_mem hi))
  rw [List.getD_eq_getElem?_getD, hget]
  show (s.2.1 270 (q + i)).toInt = ((A[i] : Nat) : Int) ∧ A[i] ≤ 40007
  by_cases hn : (s.2.1 270 (q + i)).toInt < 0
  · rw [if_pos hn] at h2
    omega
  · rw [if_neg hn] at h2
    exact ⟨by omega, h3⟩
end AM
