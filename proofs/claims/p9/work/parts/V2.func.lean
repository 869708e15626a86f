/-! ===== the class: twiceOfFunc ===== -/
def fnc (s : zS) (P : Nat) (i c : Int) : Int := KI (s.2 (P + 26)) (10 * i + c)
def sgc (s : zS) (P : Nat) (i c : Int) : Int := KI (s.2 (P + 28)) (5 * i + c)
section VFN
variable {d P : Nat} {s : zS} {a1 a2 : Int32}
theorem zg_fn {c : Int32} {k : Int} (hc : c.toInt = k) (hk : 0 ≤ k ∧ k < 10) (h : 0 ≤ a1.toInt ∧ a1.toInt ≤ 5000) : (zg s (P + 26) (a1 * 10 + c)).toInt = fnc s P a1.toInt k := by
  have em : (a1 * 10).toInt = a1.toInt * 10 := i_mul rfl (show (10 : Int32).toInt = 10 by decide) (by omega)
  have ea : (a1 * 10 + c).toInt = 10 * a1.toInt + k := by
    rw [i_add em hc (by omega)]
    omega
  rw [zg_K, ea]
  rfl
theorem zg_sg {c : Int32} {k : Int} (hc : c.toInt = k) (hk : 0 ≤ k ∧ k < 5) (h : 0 ≤ a1.toInt ∧ a1.toInt ≤ 5000) : (zg s (P + 28) (a1 * 5 + c)).toInt = sgc s P a1.toInt k := by
  have em : (a1 * 5).toInt = a1.toInt * 5 := i_mul rfl (show (5 : Int32).toInt = 5 by decide) (by omega)
  have ea : (a1 * 5 + c).toInt = 5 * a1.toInt + k := by
    rw [i_add em hc (by omega)]
    omega
  rw [zg_K, ea]
  rfl
/-- func f has the NAME and the METHOD's name of one ahead -/
def fnB (s : zS) (P : Nat) (f : Int) : Prop := ∃ i, 0 ≤ i ∧ i < f ∧ fnc s P i 6 = fnc s P f 6 ∧ KI (s.2 (P + 10)) (fnc s P i 0) = KI (s.2 (P + 10)) (fnc s P f 0)
theorem zs_127 (hP : P = 3 ∨ P = 39) (h1 : 0 ≤ a1.toInt ∧ a1.toInt ≤ 5000) (h5 : 0 ≤ fnc s P a1.toInt 5 ∧ fnc s P a1.toInt 5 ≤ 5000) : Zt (d + 10) (wd P 127) 127 [.ref 83, .int a1] s (fun v s' => s' = s ∧ ∃ r : Int32, v = some (.int r) ∧ ((fnB s P a1.toInt ∧ r.toInt = sgc s P (fnc s P a1.toInt 5) 0) ∨ (r.toInt = 1000000 ∧ ¬ fnB s P a1.toInt))) := by
  refine zc_127 (d := d + 1) hP ?_
  unfold v_127_0
  have n6 := zg_fn (s := s) (P := P) (c := 6) (k := 6) (by decide) (by decide) h1
  have n0 := zg_fn (s := s) (P := P) (c := 0) (k := 0) (by decide) (by decide) h1
  have n5 := zg_fn (s := s) (P := P) (c := 5) (k := 5) (by decide) (by decide) h1
  refine ⟨fun c1 c2 t => c1 = a1 ∧ t = s ∧ 0 ≤ c2.toInt ∧ c2.toInt ≤ a1.toInt ∧ ∀ i, 0 ≤ i → i < c2.toInt → ¬ (fnc s P i 6 = fnc s P a1.toInt 6 ∧ KI (s.2 (P + 10)) (fnc s P i 0) = KI (s.2 (P + 10)) (fnc s P a1.toInt 0)), fun _ c2 _ => (a1.toInt - c2.toInt).toNat, ⟨rfl, rfl, by decide, by rw [show (0 : Int32).toInt = 0 by decide]; omega, fun i i1 i2 => by rw [show (0 : Int32).toInt = 0 by decide] at i2; omega⟩, ?_⟩
  rintro c1 c2 t ⟨e1, e2, g1, g2, g3⟩
  subst e1 e2
  have h2 : 0 ≤ c2.toInt ∧ c2.toInt ≤ 5000 := by omega
  have m6 := zg_fn (s := t) (P := P) (a1 := c2) (c := 6) (k := 6) (by decide) (by decide) h2
  have m0 := zg_fn (s := t) (P := P) (a1 := c2) (c := 0) (k := 0) (by decide) (by decide) h2
  have nxt : ¬ (fnc t P c2.toInt 6 = fnc t P c1.toInt 6 ∧ KI (t.2 (P + 10)) (fnc t P c2.toInt 0) = KI (t.2 (P + 10)) (fnc t P c1.toInt 0)) → ¬ c1.toInt ≤ c2.toInt → v_127_39 (fun j => Zt (d + 1 + 8) (wd P j) j) P (fun c1' c2' t' => (c1' = c1 ∧ t' = t ∧ 0 ≤ c2'.toInt ∧ c2'.toInt ≤ c1.toInt ∧ ∀ i, 0 ≤ i → i < c2'.toInt → ¬ (fnc t P i 6 = fnc t P c1.toInt 6 ∧ KI (t.2 (P + 10)) (fnc t P i 0) = KI (t.2 (P + 10)) (fnc t P c1.toInt 0))) ∧ (c1.toInt - c2'.toInt).toNat < (c1.toInt - c2.toInt).toNat) c1 c2 t (fun v s' => s' = t ∧ ∃ r : Int32, v = some (.int r) ∧ ((fnB t P c1.toInt ∧ r.toInt = sgc t P (fnc t P c1.toInt 5) 0) ∨ (r.toInt = 1000000 ∧ ¬ fnB t P c1.toInt))) := by
    intro hno hlt
    unfold v_127_39
    intro x1 hx1
    have e1 := hx1 (by omega)
    refine ⟨⟨rfl, rfl, by omega, by omega, fun i i1 i2 => ?_⟩, by omega⟩
    by_cases e : i = c2.toInt
    · rw [e]
      exact hno
    · exact g3 i i1 (by omega)
  unfold v_127_2
  rw [m6, n6]
  refine ⟨fun w => ⟨rfl, 1000000, rfl, Or.inr ⟨by decide, fun q => ?_⟩⟩, fun w => ⟨fun w1 => nxt (fun q => w1 q.1) w, fun w1 => ?_⟩⟩
  · obtain ⟨i, i1, i2, i3⟩ := q
    exact g3 i i1 (by omega) i3
  · refine Zt.imp (Zt.mo (d := 9) (by omega) (zs_125 (d := 0) hP)) ?_
    rintro v5 s6 ⟨hs6, x7, rfl, hr⟩
    subst hs6
    rw [m0, n0] at hr
    refine ⟨x7, rfl, fun w7 => ?_, fun w7 => ?_⟩
    · rcases hr with ⟨k1, -⟩ | ⟨-, k1⟩
      · omega
      exact nxt (fun q => k1 q.2) w
    · rcases hr with ⟨-, k1⟩ | ⟨k1, -⟩
      · refine ⟨rfl, _, rfl, Or.inl ⟨⟨c2.toInt, by omega, by omega, w1, k1⟩, ?_⟩⟩
        rw [← n5]
        exact zg_sg (c := 0) (k := 0) (by decide) (by decide) (by rw [n5]; exact h5)
      · omega
end VFN
