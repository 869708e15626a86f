/-! ===== the reference: behind, isSame ===== -/
/-- these elements stand from x on -/
def RWel (s : yS) (x : Int) (E : List Int) : Prop := ∀ (i : Nat) (c : Int), E[i]? = some c → KI (s.2.1 264) (x + (i : Int)) = c
/-- how many TYPES stand behind an element -/
def m8 (e : Int) : Int := e % 8
section YRS
variable {d : Nat} {s : yS} {a1 a2 a3 a4 : Int32} {E E' : List Int}
theorem RWel_at {x : Int} {y : Int32} {i : Nat} {c : Int} (h : RWel s x E) (hc : E[i]? = some c) (hy : y.toInt = x + (i : Int)) (h0 : 0 ≤ y.toInt) : (s.2.1 264 y.toInt.toNat).toInt = c := by
  have := h i c hc
  rw [← hy, KI_p h0] at this
  exact this
theorem x_186 (hR : isR m8 1 E) (hw : RWel s a1.toInt E) : Par d 186 [.ref 213, .int a1] s (fun v s' => s' = s ∧ ∃ r : Int32, v = some (.int r) ∧ r.toInt = a1.toInt + (E.length : Int)) := by
  cases d with
  | zero => exact Par_0
  | succ d =>
    obtain ⟨o1, o2⟩ := isR_o E 1 hR
    refine pb_186 ?_
    unfold ub_186_0
    refine ⟨fun b1 b2 b3 u => b1 = a1 ∧ u = s ∧ ∃ i : Nat, i ≤ E.length ∧ b3.toInt = a1.toInt + (i : Int) ∧ b2.toInt = opn m8 1 (E.take i), ⟨rfl, rfl, 0, Nat.zero_le _, by omega, by rw [List.take_zero]; exact (show (1 : Int32).toInt = 1 by decide)⟩, ?_⟩
    rintro b1 b2 b3 u ⟨e1, e2, i, g1, g2, g3⟩
    subst e1 e2
    unfold ub_186_4
    refine ⟨fun y => ⟨rfl, b3, rfl, ?_⟩, fun y k1 k2 x1 hx1 k3 x2 hx2 k4 x3 hx3 k5 x4 hx4 => ?_⟩
    · rcases Nat.lt_or_ge i E.length with q | q
      · have := o2 i q
        omega
      · omega
    · have hi : i < E.length := by
        rcases Nat.lt_or_ge i E.length with q | q
        · exact q
        · rw [show i = E.length by omega, List.take_length, o1] at g3
          omega
      obtain ⟨c, hc⟩ : ∃ c, E[i]? = some c := ⟨_, List.getElem?_eq_getElem hi⟩
      rw [RWel_at hw hc g2 k1.1] at hx1
      refine ⟨rfl, rfl, i + 1, by omega, by omega, ?_⟩
      rw [opn_s hc]
      show x3.toInt = opn m8 1 (E.take i) + c % 8 - 1
      omega
theorem x_187 (h2 : a2.toInt = (E.length : Int)) (h4 : a4.toInt = (E'.length : Int)) (hw : RWel s a1.toInt E) (hw' : RWel s a3.toInt E') : Par d 187 [.ref 213, .int a1, .int a2, .int a3, .int a4] s (fun v s' => s' = s ∧ ∃ r : Int32, v = some (.int r) ∧ ((r.toInt = 1 ∧ E = E') ∨ (r.toInt = 0 ∧ ¬ E = E'))) := by
  cases d with
  | zero => exact Par_0
  | succ d =>
    refine pb_187 ?_
    unfold ub_187_0
    have main : ∀ t0 : Int32, ((t0.toInt = 1 ∧ E.length = E'.length) ∨ (t0.toInt = 0 ∧ ¬ E = E')) → ub_187_6 (Par d) a1 a2 a3 a4 t0 s (fun v s' => s' = s ∧ ∃ r : Int32, v = some (.int r) ∧ ((r.toInt = 1 ∧ E = E') ∨ (r.toInt = 0 ∧ ¬ E = E'))) := by
      intro t0 ht0
      unfold ub_187_6
      refine ⟨fun b1 b2 b3 b4 b5 b6 u => b1 = a1 ∧ b2 = a2 ∧ b3 = a3 ∧ b4 = a4 ∧ u = s ∧ ∃ i : Nat, b6.toInt = (i : Int) ∧ i ≤ E.length ∧ ((b5.toInt = 1 ∧ E.length = E'.length ∧ E.take i = E'.take i) ∨ (b5.toInt = 0 ∧ ¬ E = E')), ⟨rfl, rfl, rfl, rfl, rfl, 0, by decide, Nat.zero_le _, ?_⟩, ?_⟩
      · rcases ht0 with q | q
        · exact Or.inl ⟨q.1, q.2, rfl⟩
        · exact Or.inr q
      rintro b1 b2 b3 b4 b5 b6 u ⟨e1, e2, e3, e4, e5, i, g1, g2, g3⟩
      subst e1 e2 e3 e4 e5
      have fin : (E.length ≤ i ∨ b5.toInt = 0) → ub_187_33 (Par d) b1 b2 b3 b4 b5 b6 u (fun v s' => s' = u ∧ ∃ r : Int32, v = some (.int r) ∧ ((r.toInt = 1 ∧ E = E') ∨ (r.toInt = 0 ∧ ¬ E = E'))) := by
        intro h _
        refine ⟨rfl, b5, rfl, ?_⟩
        rcases g3 with ⟨q1, q2, q3⟩ | q
        · have hi : E.length ≤ i := by
            rcases h with z | z
            · exact z
            · omega
          rw [List.take_of_length_le hi, List.take_of_length_le (by omega)] at q3
          exact Or.inl ⟨q1, q3⟩
        · exact Or.inr q
      unfold ub_187_9
      refine ⟨fun y => fin (Or.inl (by omega)), fun y => ⟨fun y1 => fin (Or.inr y1), fun y1 k1 x1 hx1 k2 k3 x2 hx2 k4 => ?_⟩⟩
      obtain ⟨q2, q3⟩ : E.length = E'.length ∧ E.take i = E'.take i := by
        rcases g3 with q | q
        · exact q.2
        · exact absurd q.1 y1
      have hi : i < E.length := by omega
      obtain ⟨c, hc⟩ : ∃ c, E[i]? = some c := ⟨_, List.getElem?_eq_getElem hi⟩
      obtain ⟨c', hc'⟩ : ∃ c', E'[i]? = some c' := ⟨_, List.getElem?_eq_getElem (by omega)⟩
      rw [RWel_at hw hc (by omega) k2.1, RWel_at hw' hc' (by omega) k4.1]
      refine ⟨fun y2 => ?_, fun y2 => ?_⟩
      · unfold ub_187_30
        intro _ x3 hx3
        refine ⟨rfl, rfl, rfl, rfl, rfl, i + 1, by omega, by omega, Or.inr ⟨by decide, fun e => ?_⟩⟩
        rw [e, hc'] at hc
        exact y2 (Option.some.inj hc).symm
      · unfold ub_187_30
        intro _ x3 hx3
        refine ⟨rfl, rfl, rfl, rfl, rfl, i + 1, by omega, by omega, Or.inl ⟨by decide, q2, ?_⟩⟩
        rw [take_s hc, take_s hc', q3, y2]
    refine ⟨fun y => main 0 (Or.inr ⟨by decide, fun e => y (by rw [h2, h4, e])⟩), fun y => main 1 (Or.inl ⟨by decide, by omega⟩)⟩
end YRS
