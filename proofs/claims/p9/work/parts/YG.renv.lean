/-! ===== the reference: newEnv ===== -/
section YRE
variable {d : Nat} {s : yS}
theorem x_188 : Par d 188 [.ref 213] s (fun v s' => ∃ r : Int32, v = some (.int r) ∧ r.toInt = (s.1 70).toInt ∧ (s'.1 70).toInt = (s.1 70).toInt + 1 ∧ (∀ k, ¬ k = 70 → s'.1 k = s.1 k) ∧ s'.2.2 = s.2.2 ∧ (∀ q j, ¬ q = 266 → s'.2.1 q j = s.2.1 q j) ∧ ∀ j : Nat, s'.2.1 266 j = if (j : Int) = 2 * (s.1 70).toInt ∨ (j : Int) = 2 * (s.1 70).toInt + 1 then 0 else s.2.1 266 j) := by
  cases d with
  | zero => exact Par_0
  | succ d =>
    refine pb_188 ?_
    unfold ub_188_0
    intro _ x1 hx1 k1 s2 hs2 _ x3 hx3 _ x4 hx4 k4 s5 hs5 _ x6 hx6 s7 hs7 _ x8 hx8
    have e2 : s2.1 = s.1 := by rw [hs2, sa_1r]
    have e5 : s5.1 = s.1 := by rw [hs5, sa_1r, e2]
    have e7 : s7.1 70 = x6 := by rw [hs7, sfr_1, if_pos rfl]
    rw [e2] at hx3
    rw [e5] at hx6
    rw [e7] at hx8
    have c5 : ∀ q j, s5.2.1 q j = if q = 266 ∧ j = x4.toInt.toNat then 0 else if q = 266 ∧ j = x1.toInt.toNat then 0 else s.2.1 q j := fun q j => by
      rw [hs5, sa_21, hs2, sa_21]
    refine ⟨x8, rfl, by omega, by rw [e7]; omega, fun k hk => ?_, ?_, fun q j hq => ?_, fun j => ?_⟩
    · rw [hs7, sfr_1, if_neg hk, e5]
    · rw [hs7, sfr_2, hs5, hs2]
      rfl
    · rw [hs7, sfr_2, c5, if_neg (fun z => hq z.1), if_neg (fun z => hq z.1)]
    · rw [hs7, sfr_2, c5]
      by_cases z1 : j = x4.toInt.toNat
      · rw [if_pos ⟨rfl, z1⟩, if_pos (Or.inr (by omega))]
      · rw [if_neg (fun z => z1 z.2)]
        by_cases z2 : j = x1.toInt.toNat
        · rw [if_pos ⟨rfl, z2⟩, if_pos (Or.inl (by omega))]
        · rw [if_neg (fun z => z2 z.2), if_neg (fun z => by omega)]
end YRE
