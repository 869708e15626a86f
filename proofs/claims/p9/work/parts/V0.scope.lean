/-! ===== the class: names told twice, small methods ===== -/
section VSC
variable {d P : Nat} {s : zS} {a1 a2 : Int32}
/-- isOneWord -/
theorem zs_125 (hP : P = 3 ∨ P = 39) : Zt (d + 9) (wd P 125) 125 [.ref 83, .int a1, .int a2] s (fun v s' => s' = s ∧ ∃ r : Int32, v = some (.int r) ∧ ((r.toInt = 1 ∧ KI (s.2 (P + 10)) a1.toInt = KI (s.2 (P + 10)) a2.toInt) ∨ (r.toInt = 0 ∧ ¬ KI (s.2 (P + 10)) a1.toInt = KI (s.2 (P + 10)) a2.toInt))) := by
  refine zc_125 hP ?_
  unfold v_125_0 v_125_14
  rw [zg_K, zg_K]
  exact ⟨fun w => ⟨Or.inl (by decide), rfl, 0, rfl, Or.inr ⟨by decide, w⟩⟩, fun w => ⟨Or.inr (by decide), rfl, 1, rfl, Or.inl ⟨by decide, w⟩⟩⟩
/-- a slot's cell -/
def slc (s : zS) (P : Nat) (i : Int) (c : Int) : Int := KI (s.2 (P + 30)) (5 * i + c)
theorem zg_sl {c : Int32} {k : Int} (hc : c.toInt = k) (hk : 0 ≤ k ∧ k < 5) (h : 0 ≤ a1.toInt ∧ a1.toInt ≤ 5000) : (zg s (P + 30) (a1 * 5 + c)).toInt = slc s P a1.toInt k := by
  have em : (a1 * 5).toInt = a1.toInt * 5 := i_mul rfl (show (5 : Int32).toInt = 5 by decide) (by omega)
  have ea : (a1 * 5 + c).toInt = 5 * a1.toInt + k := by
    rw [i_add em hc (by omega)]
    omega
  rw [zg_K, ea]
  rfl
/-- isOneScope -/
theorem zs_124 (hP : P = 3 ∨ P = 39) (h1 : 0 ≤ a1.toInt ∧ a1.toInt ≤ 5000) (h2 : 0 ≤ a2.toInt ∧ a2.toInt ≤ 5000) : Zt (d + 9) (wd P 124) 124 [.ref 83, .int a1, .int a2] s (fun v s' => s' = s ∧ ∃ r : Int32, v = some (.int r) ∧ ((r.toInt = 1 ∧ slc s P a2.toInt 4 = slc s P a1.toInt 4 ∧ (slc s P a2.toInt 1 = slc s P a1.toInt 1 ∨ (slc s P a2.toInt 1 = 0 ∧ slc s P a1.toInt 1 = 1))) ∨ (r.toInt = 0 ∧ ¬ (slc s P a2.toInt 4 = slc s P a1.toInt 4 ∧ (slc s P a2.toInt 1 = slc s P a1.toInt 1 ∨ (slc s P a2.toInt 1 = 0 ∧ slc s P a1.toInt 1 = 1)))))) := by
  refine zc_124 hP ?_
  unfold v_124_0 v_124_33 v_124_31 v_124_34
  rw [zg_sl (a1 := a2) (c := 4) (k := 4) (by decide) (by decide) h2, zg_sl (a1 := a1) (c := 4) (k := 4) (by decide) (by decide) h1, zg_sl (a1 := a2) (c := 1) (k := 1) (by decide) (by decide) h2, zg_sl (a1 := a1) (c := 1) (k := 1) (by decide) (by decide) h1]
  refine ⟨fun w => ⟨Or.inl (by decide), rfl, 0, rfl, Or.inr ⟨by decide, fun q => w q.1⟩⟩, fun w => ⟨fun w1 => ⟨Or.inr (by decide), rfl, 1, rfl, Or.inl ⟨by decide, w, Or.inl w1⟩⟩, fun w1 => ⟨fun w2 => ⟨Or.inl (by decide), rfl, 0, rfl, Or.inr ⟨by decide, fun q => ?_⟩⟩, fun w2 => ⟨fun w3 => ⟨Or.inl (by decide), rfl, 0, rfl, Or.inr ⟨by decide, fun q => ?_⟩⟩, fun w3 => ⟨Or.inr (by decide), rfl, 1, rfl, Or.inl ⟨by decide, w, Or.inr ⟨w2, w3⟩⟩⟩⟩⟩⟩⟩
  · rcases q.2 with q | q
    · exact w1 q
    · exact w2 q.1
  · rcases q.2 with q | q
    · exact w1 q
    · exact w3 q.2
end VSC
