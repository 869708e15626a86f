/-! ===== code of an E: no LEAVE within it ===== -/
def noL (C : List Ins) : Prop := ∀ I ∈ C, ¬ I.1 = 0
section ZUY
variable {K L W ar kd : Int → Int} {TN Ls : List Int} {S : Scp} {cd : Int → List Ins} {ev : Int → Int × List Int} {C D : List Ins} {I : Ins}
theorem noL_0 : noL [] := fun I hI => by cases hI
theorem noL_c (h : ¬ I.1 = 0) (g : noL C) : noL (I :: C) := fun J hJ => by
  rcases List.mem_cons.mp hJ with e | q
  · rw [e]
    exact h
  · exact g J q
theorem noL_a (h : noL C) (g : noL D) : noL (C ++ D) := fun J hJ => by
  rcases List.mem_append.mp hJ with q | q
  · exact h J q
  · exact g J q
theorem noL_P (h : ∀ t, noL (cd t)) (ts : List Int) : noL (ciP cd ts) := fun J hJ => by
  unfold ciP at hJ
  obtain ⟨t, -, q⟩ := List.mem_flatMap.mp hJ
  exact h t J q
theorem noL_H (h : ∀ t, noL (cd t)) (t : Int) : noL (ciH K L W ar TN S cd t) := by
  unfold ciH
  split
  · unfold ciL
    exact noL_c (show ¬ (2 : Int) = 0 by decide) (noL_a (noL_P h _) (noL_c (show ¬ (3 : Int) = 0 by decide) noL_0))
  · unfold ciV
    exact noL_c (show ¬ (1 : Int) = 0 by decide) noL_0
theorem noL_O (h : ∀ t, noL (cd t)) (a : Int) (A : List Int) : noL (ciO K L W ar TN Ls S cd a A) := by
  unfold ciO
  split
  · exact noL_c (show ¬ (6 : Int) = 0 by decide) noL_0
  · split
    · exact noL_a (noL_P h _) (noL_c (show ¬ (5 : Int) = 0 by decide) noL_0)
    · exact noL_c (show ¬ (4 : Int) = 0 by decide) noL_0
theorem noL_S (h : ∀ t, noL (cd t)) : ∀ (k : Nat) (a : Int) (r : Int × List Int), noL (ciS K L W ar kd TN Ls S ev cd k a r)
  | 0, _, _ => noL_0
  | k + 1, a, r => by
    unfold ciS
    split
    · exact noL_a (noL_O h a r.2) (noL_S h k _ _)
    · exact noL_0
theorem noL_E : ∀ (m : Nat) (t : Int), noL (ciE K L W ar kd TN Ls S m t)
  | 0, _ => noL_0
  | m + 1, t => by
    unfold ciE
    exact noL_a (noL_H (noL_E m) t) (noL_S (noL_E m) 20 _ _)
end ZUY
