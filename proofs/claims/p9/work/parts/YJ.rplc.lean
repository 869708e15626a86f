/-! ===== the reference: byPlaces ===== -/
section YRP
variable {d g N : Nat} {s : yS} {a1 a2 a3 : Int32}
theorem x_190 (hg : 2 * a1.toInt + 1 = (g : Int)) (h3 : a3.toInt = (N : Int)) (hN : N ≤ 6) : Par d 190 [.ref 213, .int a1, .int a2, .int a3] s (fun v s' => v = none ∧ GRf g s s' ∧ s'.2.1 265 g = a2 ∧ s'.2.1 266 g = a3 ∧ ∀ i : Nat, i < N → (s'.2.1 267 (6 * g + i)).toInt = (i : Int) ∧ (s'.2.1 268 (6 * g + i)).toInt = 1) := by
  cases d with
  | zero => exact Par_0
  | succ d =>
    refine pb_190 ?_
    unfold ub_190_0
    intro _ x1 hx1 _ x2 hx2 k2 s3 hs3 _ s4 hs4
    have eg : x2.toInt.toNat = g := by omega
    rw [eg] at hs3 hs4
    have c4 : ∀ q j, s4.2.1 q j = if q = 266 ∧ j = g then a3 else if q = 265 ∧ j = g then a2 else s.2.1 q j := fun q j => by
      rw [hs4, sa_21, hs3, sa_21]
    have F4 : GRf g s s4 := ⟨by rw [hs4, sa_1r, hs3, sa_1r], by rw [hs4, hs3]; rfl, fun q j h1 h2 => by rw [c4, if_neg (fun z => h1 ⟨Or.inr z.1, z.2⟩), if_neg (fun z => h1 ⟨Or.inl z.1, z.2⟩)]⟩
    refine ⟨fun b1 b2 b3 b4 b5 u => b3 = a3 ∧ b4 = x2 ∧ GRf g s u ∧ u.2.1 265 g = a2 ∧ u.2.1 266 g = a3 ∧ ∃ i : Nat, b5.toInt = (i : Int) ∧ i ≤ N ∧ ∀ i' : Nat, i' < i → (u.2.1 267 (6 * g + i')).toInt = (i' : Int) ∧ (u.2.1 268 (6 * g + i')).toInt = 1, ⟨rfl, rfl, F4, by rw [c4, if_neg (fun z => absurd z.1 (by decide)), if_pos ⟨rfl, rfl⟩], by rw [c4, if_pos ⟨rfl, rfl⟩], 0, by decide, Nat.zero_le _, fun i hi => absurd hi (Nat.not_lt_zero _)⟩, ?_⟩
    rintro b1 b2 b3 b4 b5 u ⟨e3, e4, f1, f2, f3, i, g1, g2, g3⟩
    subst e3 e4
    unfold ub_190_18
    refine ⟨fun y => ⟨rfl, f1, f2, f3, fun i' hi' => g3 i' (by omega)⟩, fun y _ y1 hy1 _ y2 hy2 ky s5 hs5 _ y4 hy4 _ y5 hy5 kz s6 hs6 _ y7 hy7 => ?_⟩
    have en : y2.toInt.toNat = 6 * g + i := by omega
    have en5 : y5.toInt.toNat = 6 * g + i := by omega
    rw [en] at hs5
    rw [en5] at hs6
    have c6 : ∀ q j, s6.2.1 q j = if q = 268 ∧ j = 6 * g + i then 1 else if q = 267 ∧ j = 6 * g + i then b5 else u.2.1 q j := fun q j => by
      rw [hs6, sa_21, hs5, sa_21]
    have nq : ∀ q j, ¬ q = 267 → ¬ q = 268 → s6.2.1 q j = u.2.1 q j := fun q j h1 h2 => by rw [c6, if_neg (fun z => h2 z.1), if_neg (fun z => h1 z.1)]
    refine ⟨rfl, rfl, ⟨by rw [hs6, sa_1r, hs5, sa_1r]; exact f1.1, by rw [hs6, hs5]; exact f1.2.1, fun q j h1 h2 => ?_⟩, by rw [nq _ _ (by decide) (by decide)]; exact f2, by rw [nq _ _ (by decide) (by decide)]; exact f3, i + 1, by omega, by omega, fun i' hi' => ?_⟩
    · rw [c6, if_neg (fun z => h2 ⟨Or.inr z.1, by omega, by omega⟩), if_neg (fun z => h2 ⟨Or.inl z.1, by omega, by omega⟩)]
      exact f1.2.2 q j h1 h2
    · by_cases ei : i' = i
      · rw [ei, c6, if_neg (fun z => absurd z.1 (by decide)), if_pos ⟨rfl, rfl⟩, c6, if_pos ⟨rfl, rfl⟩]
        exact ⟨g1, by decide⟩
      · rw [c6, if_neg (fun z => by omega), if_neg (fun z => by omega), c6, if_neg (fun z => by omega), if_neg (fun z => by omega)]
        exact g3 i' (by omega)
end YRP
