/-! ===== the reference: group, whole ===== -/
section YRH
variable {d g : Nat} {s : yS} {a1 a2 a3 a4 : Int32} {X : List (List Int)} {c T : Int}
set_option maxHeartbeats 1000000 in
/-- group: the TYPES X stand behind c at a4 -/
theorem x_189 (hg : 2 * a1.toInt + a2.toInt = (g : Int)) (hw : RWel s a4.toInt (c :: X.flatten)) (hc : c % 8 = (X.length : Int)) (hX : ∀ x ∈ X, isR m8 1 x) (hX6 : X.length ≤ 6) (hT : a4.toInt + 1 + (X.flatten.length : Int) ≤ T) : Par d 189 [.ref 213, .int a1, .int a2, .int a3, .int a4] s (fun v s' => v = none ∧ GRf g s s' ∧ s'.2.1 265 g = a3 ∧ (s'.2.1 266 g).toInt = (X.length : Int) ∧ GRe s' g T X X.length) := by
  cases d with
  | zero => exact Par_0
  | succ d =>
    refine pb_189 ?_
    unfold ub_189_0
    intro k0 k1 x1 hx1 _ x2 hx2 _ x3 hx3 k3 s4 hs4 _ s5 hs5 _ x6 hx6
    have ec : (s.2.1 264 a4.toInt.toNat).toInt = c := RWel_at (i := 0) hw rfl (by omega) k0.1
    rw [ec] at hx1
    have eg : x3.toInt.toNat = g := by omega
    rw [eg] at hs4 hs5
    have c5 : ∀ q j, s5.2.1 q j = if q = 266 ∧ j = g then x1 else if q = 265 ∧ j = g then a3 else s.2.1 q j := fun q j => by
      rw [hs5, sa_21, hs4, sa_21]
    have F5 : GRf g s s5 := ⟨by rw [hs5, sa_1r, hs4, sa_1r], by rw [hs5, hs4]; rfl, fun q j h1 h2 => by rw [c5, if_neg (fun z => h1 ⟨Or.inr z.1, z.2⟩), if_neg (fun z => h1 ⟨Or.inl z.1, z.2⟩)]⟩
    have hw1 : RWel s (a4.toInt + 1) X.flatten := fun j c' hj => by
      have := hw (j + 1) c' hj
      rw [show a4.toInt + ((j + 1 : Nat) : Int) = a4.toInt + 1 + (j : Int) by omega] at this
      exact this
    refine ⟨fun b1 b2 b3 b4 b5 b6 b7 b8 u => b5 = x1 ∧ b6 = x3 ∧ GRf g s u ∧ u.2.1 265 g = a3 ∧ u.2.1 266 g = x1 ∧ ∃ i : Nat, b8.toInt = (i : Int) ∧ i ≤ X.length ∧ b7.toInt = a4.toInt + 1 + ((X.take i).flatten.length : Int) ∧ GRe u g T X i, ⟨rfl, rfl, F5, by rw [c5, if_neg (fun z => absurd z.1 (by decide)), if_pos ⟨rfl, rfl⟩], by rw [c5, if_pos ⟨rfl, rfl⟩], 0, by decide, Nat.zero_le _, ?_, fun i Y hi => absurd hi (Nat.not_lt_zero _)⟩, ?_⟩
    · rw [List.take_zero]
      show x6.toInt = a4.toInt + 1 + ((0 : Nat) : Int)
      omega
    rintro b1 b2 b3 b4 b5 b6 b7 b8 u ⟨e5, e6, f1, f2, f3, i, g1, g2, g3, g4⟩
    subst e5 e6
    unfold ub_189_29
    refine ⟨fun y => ⟨rfl, f1, f2, by rw [f3]; omega, ?_⟩, fun y _ y1 hy1 _ y2 hy2 ky s3' hs3 => ?_⟩
    · rw [show X.length = i by omega]
      exact g4
    · have hi : i < X.length := by omega
      obtain ⟨Y, hY⟩ : ∃ Y, X[i]? = some Y := ⟨_, List.getElem?_eq_getElem hi⟩
      have hYR := hX Y (List.mem_of_getElem? hY)
      have wY : RWel s b7.toInt Y := by
        rw [g3]
        exact RWel_fl X i Y _ hw1 hY
      have en : y2.toInt.toNat = 6 * g + i := by omega
      rw [en] at hs3
      have F3 : GRf g s s3' := ⟨by rw [hs3, sa_1r]; exact f1.1, by rw [hs3]; exact f1.2.1, fun q j h1 h2 => by rw [hs3, sa_21, if_neg (fun z => h2 ⟨Or.inl z.1, by omega, by omega⟩)]; exact f1.2.2 q j h1 h2⟩
      refine Par.imp (x_186 (E := Y) hYR (GRf_el F3 wY)) ?_
      rintro v5 s4' ⟨hs4', x6', rfl, hx6'⟩
      refine ⟨x6', rfl, fun _ x7 hx7 _ x8 hx8 _ x9 hx9 kx s10 hs10 _ x11 hx11 => ?_⟩
      have en8 : x8.toInt.toNat = 6 * g + i := by omega
      rw [en8, hs4'] at hs10
      have c10 : ∀ q j, s10.2.1 q j = if q = 268 ∧ j = 6 * g + i then x9 else if q = 267 ∧ j = 6 * g + i then b7 else u.2.1 q j := fun q j => by
        rw [hs10, sa_21, hs3, sa_21]
      have F10 : GRf g s s10 := ⟨by rw [hs10, sa_1r]; exact F3.1, by rw [hs10]; exact F3.2.1, fun q j h1 h2 => by rw [hs10, sa_21, if_neg (fun z => h2 ⟨Or.inr z.1, by omega, by omega⟩)]; exact F3.2.2 q j h1 h2⟩
      have nq : ∀ q j, ¬ q = 267 → ¬ q = 268 → s10.2.1 q j = u.2.1 q j := fun q j h1 h2 => by rw [c10, if_neg (fun z => h2 z.1), if_neg (fun z => h1 z.1)]
      refine ⟨rfl, rfl, F10, by rw [nq _ _ (by decide) (by decide)]; exact f2, by rw [nq _ _ (by decide) (by decide)]; exact f3, i + 1, by omega, by omega, ?_, ?_⟩
      · rw [fl_take hY]
        omega
      · intro i' Y' hi' hY'
        by_cases ei : i' = i
        · rw [ei, hY] at hY'
          have eY : Y = Y' := Option.some.inj hY'
          rw [← eY, ei]
          have q1 := fl_le X (i + 1)
          have q2 := fl_take hY
          refine ⟨b7.toInt, ?_, ?_, ⟨by omega, by omega⟩, GRf_el F10 wY⟩
          · rw [c10, if_neg (fun z => absurd z.1 (by decide)), if_pos ⟨rfl, rfl⟩]
          · rw [c10, if_pos ⟨rfl, rfl⟩]
            omega
        · obtain ⟨x, h1, h2, h0, h3⟩ := g4 i' Y' (by omega) hY'
          refine ⟨x, ?_, ?_, h0, fun j c' hj => ?_⟩
          · rw [c10, if_neg (fun z => by omega), if_neg (fun z => by omega)]
            exact h1
          · rw [c10, if_neg (fun z => by omega), if_neg (fun z => by omega)]
            exact h2
          · have e1 : s10.2.1 264 = u.2.1 264 := funext fun j => nq _ _ (by decide) (by decide)
            rw [e1]
            exact h3 j c' hj
end YRH
