/-! ===== the reference: group ===== -/
/-- group g of the envs: of o, the TYPES X -/
def GRe (s : yS) (g : Nat) (T : Int) (X : List (List Int)) (m : Nat) : Prop := ∀ (i : Nat) (Y : List Int), i < m → X[i]? = some Y → ∃ x : Int, (s.2.1 267 (6 * g + i)).toInt = x ∧ (s.2.1 268 (6 * g + i)).toInt = (Y.length : Int) ∧ (0 ≤ x ∧ x + (Y.length : Int) ≤ T) ∧ RWel s x Y
/-- only group g is another -/
def GRf (g : Nat) (s s' : yS) : Prop := s'.1 = s.1 ∧ s'.2.2 = s.2.2 ∧ ∀ q j, ¬ ((q = 265 ∨ q = 266) ∧ j = g) → ¬ ((q = 267 ∨ q = 268) ∧ 6 * g ≤ j ∧ j < 6 * g + 6) → s'.2.1 q j = s.2.1 q j
section YRG
variable {d g : Nat} {s u : yS} {a1 a2 a3 a4 : Int32} {X : List (List Int)} {E : List Int} {x : Int}
theorem RWel_fl : ∀ (Z : List (List Int)) (i : Nat) (y : List Int) (x : Int), RWel s x Z.flatten → Z[i]? = some y → RWel s (x + ((Z.take i).flatten.length : Int)) y
  | [], i, y, x, _, h => by cases h
  | z :: Z, 0, y, x, g, h => by
    have e1 : z = y := by simpa using h
    rw [List.take_zero]
    show RWel s (x + ((0 : Nat) : Int)) y
    rw [show x + ((0 : Nat) : Int) = x by omega]
    intro j c hc
    refine g j c ?_
    show (z ++ Z.flatten)[j]? = some c
    rw [e1, List.getElem?_append_left (List.getElem?_eq_some_iff.mp hc).1]
    exact hc
  | z :: Z, i + 1, y, x, g, h => by
    have g2 : RWel s (x + (z.length : Int)) Z.flatten := by
      intro j c hc
      have := g (z.length + j) c (by
        show (z ++ Z.flatten)[z.length + j]? = some c
        rw [app_at rfl]
        exact hc)
      rw [show x + ((z.length + j : Nat) : Int) = x + (z.length : Int) + (j : Int) by omega] at this
      exact this
    have := RWel_fl Z i y _ g2 h
    have e2 : x + (z.length : Int) + ((Z.take i).flatten.length : Int) = x + (((z :: Z).take (i + 1)).flatten.length : Int) := by
      rw [List.take_succ_cons, List.flatten_cons, List.length_append]
      omega
    rw [e2] at this
    exact this
theorem GRf_el (h : GRf g s u) (w0 : RWel s x E) : RWel u x E := fun i c hc => by
  have e1 : u.2.1 264 = s.2.1 264 := funext fun j => h.2.2 264 j (fun q => by omega) (fun q => by omega)
  rw [e1]
  exact w0 i c hc
end YRG
