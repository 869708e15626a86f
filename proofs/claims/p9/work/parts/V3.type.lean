/-! ===== the class: twiceOfType ===== -/
def tyc (s : zS) (P : Nat) (i c : Int) : Int := KI (s.2 (P + 24)) (6 * i + c)
section VTY
variable {d P : Nat} {s : zS} {a1 a2 : Int32}
theorem zg_ty {c : Int32} {k : Int} (hc : c.toInt = k) (hk : 0 ≤ k ∧ k < 6) (h : 0 ≤ a1.toInt ∧ a1.toInt ≤ 5000) : (zg s (P + 24) (a1 * 6 + c)).toInt = tyc s P a1.toInt k := by
  have em : (a1 * 6).toInt = a1.toInt * 6 := i_mul rfl (show (6 : Int32).toInt = 6 by decide) (by omega)
  have ea : (a1 * 6 + c).toInt = 6 * a1.toInt + k := by
    rw [i_add em hc (by omega)]
    omega
  rw [zg_K, ea]
  rfl
def tyB (s : zS) (P : Nat) (f : Int) : Prop := ∃ i, 0 ≤ i ∧ i < f ∧ KI (s.2 (P + 10)) (tyc s P i 0) = KI (s.2 (P + 10)) (tyc s P f 0)
/-- head i of those from m on has the name of one ahead -/
def hdB (s : zS) (P : Nat) (m i : Int) : Prop := ∃ j, 0 ≤ j ∧ j < i ∧ sgc s P (m + i) 1 = sgc s P (m + j) 1
set_option maxHeartbeats 1000000 in
theorem zs_126 (hP : P = 3 ∨ P = 39) (h1 : 0 ≤ a1.toInt ∧ a1.toInt ≤ 4000) {N : Int} (h3 : 0 ≤ tyc s P a1.toInt 3 ∧ tyc s P a1.toInt 3 ≤ 4000) (h4 : 0 ≤ tyc s P a1.toInt 4 ∧ tyc s P a1.toInt 4 ≤ 100) (hN : N = if (zInf s P a1).toInt = 0 then 0 else tyc s P a1.toInt 4) : Zt (d + 10) (wd P 126) 126 [.ref 83, .int a1] s (fun v s' => s' = s ∧ ∃ r : Int32, v = some (.int r) ∧ ((tyB s P a1.toInt ∧ r.toInt = tyc s P a1.toInt 0) ∨ (¬ tyB s P a1.toInt ∧ ((∃ i, 0 ≤ i ∧ i < N ∧ hdB s P (tyc s P a1.toInt 3) i ∧ r.toInt = sgc s P (tyc s P a1.toInt 3 + i) 0 ∧ ∀ j, 0 ≤ j → j < i → ¬ hdB s P (tyc s P a1.toInt 3) j) ∨ (r.toInt = 1000000 ∧ ∀ j, 0 ≤ j → j < N → ¬ hdB s P (tyc s P a1.toInt 3) j))))) := by
  have h1' : 0 ≤ a1.toInt ∧ a1.toInt ≤ 5000 := by omega
  have n0 := zg_ty (s := s) (P := P) (c := 0) (k := 0) (by decide) (by decide) h1'
  have n3 := zg_ty (s := s) (P := P) (c := 3) (k := 3) (by decide) (by decide) h1'
  have n4 := zg_ty (s := s) (P := P) (c := 4) (k := 4) (by decide) (by decide) h1'
  refine zc_126 (d := d + 1) hP ?_
  unfold v_126_0
  generalize hF : tyc s P a1.toInt 3 = F at *
  -- the heads
  have hds : ¬ tyB s P a1.toInt → ∀ b2 t0 : Int32, t0.toInt = N → v_126_42 (fun j => Zt (d + 1 + 8) (wd P j) j) P a1 b2 (zg s (P + 24) (a1 * 6 + 3)) t0 s (fun v s' => s' = s ∧ ∃ r : Int32, v = some (.int r) ∧ ((tyB s P a1.toInt ∧ r.toInt = tyc s P a1.toInt 0) ∨ (¬ tyB s P a1.toInt ∧ ((∃ i, 0 ≤ i ∧ i < N ∧ hdB s P F i ∧ r.toInt = sgc s P (F + i) 0 ∧ ∀ j, 0 ≤ j → j < i → ¬ hdB s P F j) ∨ (r.toInt = 1000000 ∧ ∀ j, 0 ≤ j → j < N → ¬ hdB s P F j))))) := by
    intro hty b2 t0 ht0
    have hNb : 0 ≤ N ∧ N ≤ 100 := by
      rw [hN]
      split
      · decide
      · exact h4
    unfold v_126_42
    refine ⟨fun c1 c2 c3 c4 c5 t => c3.toInt = F ∧ c4.toInt = N ∧ t = s ∧ 0 ≤ c5.toInt ∧ c5.toInt ≤ N ∧ ∀ j, 0 ≤ j → j < c5.toInt → ¬ hdB s P F j, fun _ _ _ _ c5 _ => (N - c5.toInt).toNat, ⟨n3, ht0, rfl, by decide, by rw [show (0 : Int32).toInt = 0 by decide]; omega, fun j j1 j2 => by rw [show (0 : Int32).toInt = 0 by decide] at j2; omega⟩, ?_⟩
    rintro c1 c2 c3 c4 c5 t ⟨g3, g4, e5, g6, g7, g8⟩
    subst e5
    unfold v_126_45
    refine ⟨fun w => ⟨rfl, 1000000, rfl, Or.inr ⟨hty, Or.inr ⟨by decide, fun j j1 j2 => g8 j j1 (by omega)⟩⟩⟩, fun w => ?_⟩
    refine ⟨fun d1 d2 d3 d4 d5 d6 t' => d3.toInt = F ∧ d4.toInt = N ∧ d5 = c5 ∧ t' = t ∧ 0 ≤ d6.toInt ∧ d6.toInt ≤ c5.toInt ∧ ∀ j, 0 ≤ j → j < d6.toInt → ¬ sgc t P (F + c5.toInt) 1 = sgc t P (F + j) 1, fun _ _ _ _ _ d6 _ => (c5.toInt - d6.toInt).toNat, ⟨g3, g4, rfl, rfl, by decide, by rw [show (0 : Int32).toInt = 0 by decide]; omega, fun j j1 j2 => by rw [show (0 : Int32).toInt = 0 by decide] at j2; omega⟩, ?_⟩
    rintro d1 d2 d3 d4 d5 d6 t' ⟨f3, f4, f5, f6, f7, f8, f9⟩
    subst f5 f6
    unfold v_126_50
    refine ⟨fun w1 x1 hx1 => ?_, fun w1 x2 hx2 x4 hx4 => ?_⟩
    · have e1 := hx1 (by omega)
      refine ⟨⟨f3, f4, rfl, by omega, by omega, fun j j1 j2 => ?_⟩, by dsimp only; omega⟩
      by_cases e : j = d5.toInt
      · rw [e]
        rintro ⟨i, i1, i2, i3⟩
        exact f9 i i1 (by omega) i3
      · exact g8 j j1 (by omega)
    · have e2 := hx2 (by omega)
      have e4 := hx4 (by omega)
      have k2 := zg_sg (s := t') (P := P) (a1 := x2) (c := 1) (k := 1) (by decide) (by decide) (by omega)
      have k4 := zg_sg (s := t') (P := P) (a1 := x4) (c := 1) (k := 1) (by decide) (by decide) (by omega)
      rw [k2, k4, show x2.toInt = F + d5.toInt by omega, show x4.toInt = F + d6.toInt by omega]
      refine ⟨fun w2 x6 hx6 => ?_, fun w2 x7 hx7 => ?_⟩
      · have e6 := hx6 (by omega)
        refine ⟨⟨f3, f4, rfl, rfl, by omega, by omega, fun j j1 j2 => ?_⟩, by dsimp only; omega⟩
        by_cases e : j = d6.toInt
        · rw [e]
          exact w2
        · exact f9 j j1 (by omega)
      · have e7 := hx7 (by omega)
        have k7 := zg_sg (s := t') (P := P) (a1 := x7) (c := 0) (k := 0) (by decide) (by decide) (by omega)
        refine ⟨rfl, _, rfl, Or.inr ⟨hty, Or.inl ⟨d5.toInt, by omega, by omega, ⟨d6.toInt, by omega, by omega, w2⟩, ?_, g8⟩⟩⟩
        rw [k7, show x7.toInt = F + d5.toInt by omega]
  refine ⟨fun c1 c2 c3 t => c1 = a1 ∧ c2.toInt = tyc s P a1.toInt 0 ∧ t = s ∧ 0 ≤ c3.toInt ∧ c3.toInt ≤ a1.toInt ∧ ∀ i, 0 ≤ i → i < c3.toInt → ¬ KI (s.2 (P + 10)) (tyc s P i 0) = KI (s.2 (P + 10)) (tyc s P a1.toInt 0), fun _ _ c3 _ => (a1.toInt - c3.toInt).toNat, ⟨rfl, n0, rfl, by decide, by rw [show (0 : Int32).toInt = 0 by decide]; omega, fun i i1 i2 => by rw [show (0 : Int32).toInt = 0 by decide] at i2; omega⟩, ?_⟩
  rintro c1 c2 c3 t ⟨e1, g2, e3, g4, g5, g6⟩
  subst e1 e3
  have m0 := zg_ty (s := t) (P := P) (a1 := c3) (c := 0) (k := 0) (by decide) (by decide) (by omega)
  unfold v_126_8
  refine ⟨fun w => ?_, fun w => ?_⟩
  · have hty : ¬ tyB t P c1.toInt := fun q => by
      obtain ⟨i, i1, i2, i3⟩ := q
      exact g6 i i1 (by omega) i3
    refine ⟨fun w1 => hds hty c2 0 ?_, fun w1 => hds hty c2 _ ?_⟩
    · rw [hN, if_pos w1]
      decide
    · rw [hN, if_neg w1]
      exact n4
  · refine Zt.imp (Zt.mo (d := 9) (by omega) (zs_125 (d := 0) hP)) ?_
    rintro v4 s5 ⟨hs5, x6, rfl, hr⟩
    subst hs5
    rw [m0, g2] at hr
    refine ⟨x6, rfl, fun w6 x7 hx7 => ?_, fun w6 => ?_⟩
    · have e7 := hx7 (by omega)
      rcases hr with ⟨k1, -⟩ | ⟨-, k1⟩
      · omega
      refine ⟨⟨rfl, g2, rfl, by omega, by omega, fun i i1 i2 => ?_⟩, by dsimp only; omega⟩
      by_cases e : i = c3.toInt
      · rw [e]
        exact k1
      · exact g6 i i1 (by omega)
    · rcases hr with ⟨-, k1⟩ | ⟨k1, -⟩
      · exact ⟨rfl, c2, rfl, Or.inl ⟨⟨c3.toInt, by omega, by omega, k1⟩, g2⟩⟩
      · omega
end VTY
