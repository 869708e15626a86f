/-! ===== the class: twiceInSlots ===== -/
/-- slot i is told twice, among the slots from f on -/
def slB (s : zS) (P : Nat) (f : Int) (inF : Prop) (i : Int) : Prop := 0 ≤ slc s P i 0 ∧ (inF ∨ ¬ slc s P i 1 = 3) ∧ ∃ j, f ≤ j ∧ j < i ∧ slc s P i 4 = slc s P j 4 ∧ (slc s P i 1 = slc s P j 1 ∨ (slc s P i 1 = 0 ∧ slc s P j 1 = 1)) ∧ KI (s.2 (P + 10)) (slc s P j 0) = KI (s.2 (P + 10)) (slc s P i 0)
def dcl (s : zS) (P : Nat) (i : Int) (c : Int) : Int := KI (s.2 (P + 32)) (3 * i + c)
section VSL
variable {d P : Nat} {s : zS} {a1 a2 : Int32}
theorem zg_dc {c : Int32} {k : Int} (hc : c.toInt = k) (hk : 0 ≤ k ∧ k < 3) (h : 0 ≤ a1.toInt ∧ a1.toInt ≤ 5000) : (zg s (P + 32) (a1 * 3 + c)).toInt = dcl s P a1.toInt k := by
  have em : (a1 * 3).toInt = a1.toInt * 3 := i_mul rfl (show (3 : Int32).toInt = 3 by decide) (by omega)
  have ea : (a1 * 3 + c).toInt = 3 * a1.toInt + k := by
    rw [i_add em hc (by omega)]
    omega
  rw [zg_K, ea]
  rfl
set_option maxHeartbeats 1000000 in
theorem zs_123 (hP : P = 3 ∨ P = 39) (h1 : 0 ≤ a1.toInt ∧ a1.toInt ≤ 5000) (hf : 0 ≤ dcl s P a1.toInt 1 ∧ dcl s P a1.toInt 1 ≤ dcl s P a1.toInt 2 ∧ dcl s P a1.toInt 2 ≤ 4000) : Zt (d + 10) (wd P 123) 123 [.ref 83, .int a1] s (fun v s' => s' = s ∧ ∃ r : Int32, v = some (.int r) ∧ ((∃ i, dcl s P a1.toInt 1 ≤ i ∧ i < dcl s P a1.toInt 2 ∧ slB s P (dcl s P a1.toInt 1) (dcl s P a1.toInt 0 < 0) i ∧ r.toInt = slc s P i 0 ∧ ∀ j, dcl s P a1.toInt 1 ≤ j → j < i → ¬ slB s P (dcl s P a1.toInt 1) (dcl s P a1.toInt 0 < 0) j) ∨ (r.toInt = 1000000 ∧ ∀ j, dcl s P a1.toInt 1 ≤ j → j < dcl s P a1.toInt 2 → ¬ slB s P (dcl s P a1.toInt 1) (dcl s P a1.toInt 0 < 0) j))) := by
  refine zc_123 (d := d + 1) hP ?_
  have hz1 := zg_dc (s := s) (P := P) (c := 1) (k := 1) (by decide) (by decide) h1
  have hz2 := zg_dc (s := s) (P := P) (c := 2) (k := 2) (by decide) (by decide) h1
  have hz0 := zg_dc (s := s) (P := P) (c := 0) (k := 0) (by decide) (by decide) h1
  generalize hF : dcl s P a1.toInt 1 = F at *
  generalize hT : dcl s P a1.toInt 2 = T at *
  have main : ∀ b2 : Int32, (b2.toInt = 0 ∨ b2.toInt = 1) → (¬ b2.toInt = 0 ↔ dcl s P a1.toInt 0 < 0) → v_123_9 (fun j => Zt (d + 1 + 8) (wd P j) j) P a1 b2 s (fun v s' => s' = s ∧ ∃ r : Int32, v = some (.int r) ∧ ((∃ i, F ≤ i ∧ i < T ∧ slB s P F (dcl s P a1.toInt 0 < 0) i ∧ r.toInt = slc s P i 0 ∧ ∀ j, F ≤ j → j < i → ¬ slB s P F (dcl s P a1.toInt 0 < 0) j) ∨ (r.toInt = 1000000 ∧ ∀ j, F ≤ j → j < T → ¬ slB s P F (dcl s P a1.toInt 0 < 0) j))) := by
    intro b2 hb2 hin
    generalize hI : (dcl s P a1.toInt 0 < 0) = inF at *
    unfold v_123_9
    refine ⟨fun c1 c2 c3 c4 t => c1 = a1 ∧ c2 = b2 ∧ c3.toInt = F ∧ t = s ∧ F ≤ c4.toInt ∧ c4.toInt ≤ T ∧ ∀ j, F ≤ j → j < c4.toInt → ¬ slB s P F inF j, fun _ _ _ c4 _ => (T - c4.toInt).toNat, ⟨rfl, rfl, hz1, rfl, by omega, by omega, fun j j1 j2 => by omega⟩, ?_⟩
    rintro c1 c2 c3 c4 t ⟨e1, e2, g3, e4, g5, g6, g7⟩
    subst e1 e2 e4
    unfold v_123_18
    rw [hz2]
    refine ⟨fun w => ⟨rfl, 1000000, rfl, Or.inr ⟨by decide, fun j j1 j2 => g7 j j1 (by omega)⟩⟩, fun w => ?_⟩
    have h4 : 0 ≤ c4.toInt ∧ c4.toInt ≤ 5000 := by omega
    have n0 := zg_sl (s := t) (P := P) (a1 := c4) (c := 0) (k := 0) (by decide) (by decide) h4
    have n1 := zg_sl (s := t) (P := P) (a1 := c4) (c := 1) (k := 1) (by decide) (by decide) h4
    rw [n0, n1]
    -- on, behind slot c4
    have nxt : ∀ (x5 x6 x7 : Int32), ¬ slB t P F inF c4.toInt → v_123_71 (fun j => Zt (d + 1 + 8) (wd P j) j) P (fun c1' c2' c3' c4' t' => (c1' = c1 ∧ c2' = c2 ∧ c3'.toInt = F ∧ t' = t ∧ F ≤ c4'.toInt ∧ c4'.toInt ≤ T ∧ ∀ j, F ≤ j → j < c4'.toInt → ¬ slB t P F inF j) ∧ (T - c4'.toInt).toNat < (T - c4.toInt).toNat) c1 c2 c3 c4 x5 x6 x7 t (fun v s' => s' = t ∧ ∃ r : Int32, v = some (.int r) ∧ ((∃ i, F ≤ i ∧ i < T ∧ slB t P F inF i ∧ r.toInt = slc t P i 0 ∧ ∀ j, F ≤ j → j < i → ¬ slB t P F inF j) ∨ (r.toInt = 1000000 ∧ ∀ j, F ≤ j → j < T → ¬ slB t P F inF j))) := by
      intro x5 x6 x7 hno
      unfold v_123_71
      intro x1 hx1
      have := hx1 (by omega)
      refine ⟨⟨rfl, rfl, g3, rfl, by omega, by omega, fun j j1 j2 => ?_⟩, by omega⟩
      by_cases e : j = c4.toInt
      · rw [e]
        exact hno
      · exact g7 j j1 (by omega)
    have skip : ¬ slB t P F inF c4.toInt → v_123_44 (fun j => Zt (d + 1 + 8) (wd P j) j) P (fun c1' c2' c3' c4' t' => (c1' = c1 ∧ c2' = c2 ∧ c3'.toInt = F ∧ t' = t ∧ F ≤ c4'.toInt ∧ c4'.toInt ≤ T ∧ ∀ j, F ≤ j → j < c4'.toInt → ¬ slB t P F inF j) ∧ (T - c4'.toInt).toNat < (T - c4.toInt).toNat) c1 c2 c3 c4 (zg t (P + 30) (c4 * 5 + 0)) t (fun v s' => s' = t ∧ ∃ r : Int32, v = some (.int r) ∧ ((∃ i, F ≤ i ∧ i < T ∧ slB t P F inF i ∧ r.toInt = slc t P i 0 ∧ ∀ j, F ≤ j → j < i → ¬ slB t P F inF j) ∨ (r.toInt = 1000000 ∧ ∀ j, F ≤ j → j < T → ¬ slB t P F inF j))) := by
      intro hno
      unfold v_123_44 v_123_45
      refine ⟨fun d1 d2 d3 d4 d5 d6 d7 t' => d1 = c1 ∧ d2 = c2 ∧ d3 = c3 ∧ d4 = c4 ∧ d6.toInt = 0 ∧ t' = t, fun _ _ _ _ _ _ _ _ => 0, ⟨rfl, rfl, rfl, rfl, by decide, rfl⟩, ?_⟩
      rintro d1 d2 d3 d4 d5 d6 d7 t' ⟨f1, f2, f3, f4, f6, f8⟩
      subst f1 f2 f3 f4 f8
      unfold v_123_48
      exact ⟨fun _ => nxt _ _ _ hno, fun _ => ⟨fun _ => nxt _ _ _ hno, fun w2 => absurd f6 w2⟩⟩
    have look : 0 ≤ slc t P c4.toInt 0 → (inF ∨ ¬ slc t P c4.toInt 1 = 3) → v_123_42 (fun j => Zt (d + 1 + 8) (wd P j) j) P (fun c1' c2' c3' c4' t' => (c1' = c1 ∧ c2' = c2 ∧ c3'.toInt = F ∧ t' = t ∧ F ≤ c4'.toInt ∧ c4'.toInt ≤ T ∧ ∀ j, F ≤ j → j < c4'.toInt → ¬ slB t P F inF j) ∧ (T - c4'.toInt).toNat < (T - c4.toInt).toNat) c1 c2 c3 c4 (zg t (P + 30) (c4 * 5 + 0)) t (fun v s' => s' = t ∧ ∃ r : Int32, v = some (.int r) ∧ ((∃ i, F ≤ i ∧ i < T ∧ slB t P F inF i ∧ r.toInt = slc t P i 0 ∧ ∀ j, F ≤ j → j < i → ¬ slB t P F inF j) ∨ (r.toInt = 1000000 ∧ ∀ j, F ≤ j → j < T → ¬ slB t P F inF j))) := by
      intro ha hb
      unfold v_123_42 v_123_45
      refine ⟨fun d1 d2 d3 d4 d5 d6 d7 t' => d1 = c1 ∧ d2 = c2 ∧ d3 = c3 ∧ d4 = c4 ∧ d5.toInt = slc t P c4.toInt 0 ∧ d6.toInt = 1 ∧ t' = t ∧ F ≤ d7.toInt ∧ d7.toInt ≤ c4.toInt ∧ ∀ j, F ≤ j → j < d7.toInt → ¬ (slc t P c4.toInt 4 = slc t P j 4 ∧ (slc t P c4.toInt 1 = slc t P j 1 ∨ (slc t P c4.toInt 1 = 0 ∧ slc t P j 1 = 1)) ∧ KI (t.2 (P + 10)) (slc t P j 0) = KI (t.2 (P + 10)) (slc t P c4.toInt 0)), fun _ _ _ d4 _ _ d7 _ => (d4.toInt - d7.toInt).toNat, ⟨rfl, rfl, rfl, rfl, n0, by decide, rfl, by omega, by omega, fun j j1 j2 => by omega⟩, ?_⟩
      rintro d1 d2 d3 d4 d5 d6 d7 t' ⟨f1, f2, f3, f4, f5, f6, f8, f9, f10, f11⟩
      subst f1 f2 f3 f4 f8
      have h7 : 0 ≤ d7.toInt ∧ d7.toInt ≤ 5000 := by omega
      have m0 := zg_sl (s := t') (P := P) (a1 := d7) (c := 0) (k := 0) (by decide) (by decide) h7
      unfold v_123_48
      refine ⟨fun w1 => nxt _ _ _ (fun q => ?_), fun w1 => ⟨fun w2 => by omega, fun w2 => ?_⟩⟩
      · obtain ⟨-, -, j, j1, j2, j3⟩ := q
        exact f11 j j1 (by omega) j3
      · have go : ¬ (slc t' P d4.toInt 4 = slc t' P d7.toInt 4 ∧ (slc t' P d4.toInt 1 = slc t' P d7.toInt 1 ∨ (slc t' P d4.toInt 1 = 0 ∧ slc t' P d7.toInt 1 = 1)) ∧ KI (t'.2 (P + 10)) (slc t' P d7.toInt 0) = KI (t'.2 (P + 10)) (slc t' P d4.toInt 0)) → ∀ x1 : Int32, (-2147483648 ≤ d7.toInt + 1 ∧ d7.toInt + 1 ≤ 2147483647 → x1.toInt = d7.toInt + 1) → x1.toInt = d7.toInt + 1 ∧ ∀ j, F ≤ j → j < x1.toInt → ¬ (slc t' P d4.toInt 4 = slc t' P j 4 ∧ (slc t' P d4.toInt 1 = slc t' P j 1 ∨ (slc t' P d4.toInt 1 = 0 ∧ slc t' P j 1 = 1)) ∧ KI (t'.2 (P + 10)) (slc t' P j 0) = KI (t'.2 (P + 10)) (slc t' P d4.toInt 0)) := fun hno x1 hx1 => by
          have e1 := hx1 (by omega)
          refine ⟨e1, fun j j1 j2 => ?_⟩
          by_cases e : j = d7.toInt
          · rw [e]
            exact hno
          · exact f11 j j1 (by omega)
        refine Zt.imp (Zt.mo (d := 9) (by omega) (zs_124 (d := 0) hP h7 h4)) ?_
        rintro v1 s2 ⟨hs2, x3, rfl, hr⟩
        subst hs2
        refine ⟨x3, rfl, fun w3 => ?_, fun w3 => ?_⟩
        · rcases hr with ⟨k1, -⟩ | ⟨-, k1⟩
          · omega
          unfold v_123_69
          intro x1 hx1
          obtain ⟨k2, k3⟩ := go (fun q => k1 ⟨q.1, q.2.1⟩) x1 hx1
          exact ⟨⟨rfl, rfl, rfl, rfl, f5, f6, rfl, by omega, by omega, k3⟩, by dsimp only; omega⟩
        · rcases hr with ⟨-, k1, k1'⟩ | ⟨k1, -⟩
          · refine Zt.imp (Zt.mo (d := 9) (by omega) (zs_125 (d := 0) hP)) ?_
            rintro v5 s6 ⟨hs6, x7, rfl, hr7⟩
            subst hs6
            rw [m0, f5] at hr7
            refine ⟨x7, rfl, fun w7 => ?_, fun w7 => ?_⟩
            · rcases hr7 with ⟨k2, -⟩ | ⟨-, k2⟩
              · omega
              unfold v_123_69
              intro x1 hx1
              obtain ⟨k4, k3⟩ := go (fun q => k2 q.2.2) x1 hx1
              exact ⟨⟨rfl, rfl, rfl, rfl, f5, f6, rfl, by omega, by omega, k3⟩, by dsimp only; omega⟩
            · rcases hr7 with ⟨-, k2⟩ | ⟨k2, -⟩
              · exact ⟨rfl, d5, rfl, Or.inl ⟨d4.toInt, by omega, by omega, ⟨ha, hb, d7.toInt, by omega, by omega, k1, k1', k2⟩, f5, g7⟩⟩
              · omega
          · omega
    refine ⟨fun w1 => skip (fun q => by have := q.1; omega), fun w1 => ⟨fun w2 => look (by omega) (Or.inl (hin.mp w2)), fun w2 => ⟨fun w3 => skip (fun q => ?_), fun w3 => look (by omega) (Or.inr w3)⟩⟩⟩
    rcases q.2.1 with q | q
    · exact hin.mpr q w2
    · exact q w3
  unfold v_123_0
  rw [hz0]
  exact ⟨fun w => main 0 (Or.inl (by decide)) ⟨fun q => absurd (by decide) q, fun q => by omega⟩, fun w => main 1 (Or.inr (by decide)) ⟨fun _ => by omega, fun _ => by decide⟩⟩
end VSL
