/-! ===== the class: Stock's counts and begin in any sane state ===== -/
section ZZZH
variable {d P : Nat} {s u : zS} {a1 a2 a3 : Int32}
theorem zw_95 (hP : P = 3 ∨ P = 39) : Zt (d + 9) (wd2 P 95) 95 [.ref 197] s (fun v s' => s' = s ∧ ∃ r : Int32, v = some (.int r)) := by
  refine zc_95 hP ?_
  unfold v_95_0
  intro x1 _
  exact ⟨rfl, _, rfl⟩
theorem zw_96 (hP : P = 3 ∨ P = 39) : Zt (d + 9) (wd2 P 96) 96 [.ref 197] s (fun v s' => s' = s ∧ ∃ r : Int32, v = some (.int r)) := by
  refine zc_96 hP ?_
  unfold v_96_0
  intro x1 _
  exact ⟨rfl, _, rfl⟩
/-- begin -/
theorem zw_102 (hP : P = 3 ∨ P = 39) (h1 : sn a1) (h2 : sn a2) (h3 : sn a3) (hF : ∀ i, sn (s.2 204 i)) : Zt (d + 9) (wd2 P 102) 102 [.ref 197, .int a1, .int a2, .int a3] s (fun v s' => v = none ∧ s'.1 = s.1 ∧ (∀ r, ¬ r = 204 → s'.2 r = s.2 r) ∧ ∀ i, sn (s'.2 204 i)) := by
  have tw : ∀ (w : zS) (x v : Int32), sn v → (∀ i, sn (w.2 204 i)) → ∀ i, sn ((zt w 204 x v).2 204 i) := fun w x v hv hw i => by
    rw [zt_e]
    split
    · exact hv
    · exact hw i
  refine zc_102 hP ?_
  unfold v_102_0
  intro s1 hs1 s2 hs2 s3 hs3
  have F3 : ∀ i, sn (s3.2 204 i) := by
    rw [hs3]
    refine tw _ _ _ h3 ?_
    rw [hs2]
    refine tw _ _ _ h2 ?_
    rw [hs1]
    exact tw _ _ _ h1 hF
  have r3 : ∀ r, ¬ r = 204 → s3.2 r = s.2 r := fun r hr => by rw [hs3, zt_o hr, hs2, zt_o hr, hs1, zt_o hr]
  have f3 : s3.1 = s.1 := by rw [hs3, zt_1, hs2, zt_1, hs1, zt_1]
  refine ⟨fun _ _ _ c4 u => 0 ≤ c4.toInt ∧ c4.toInt ≤ 6 ∧ u.1 = s.1 ∧ (∀ r, ¬ r = 204 → u.2 r = s.2 r) ∧ ∀ i, sn (u.2 204 i), fun _ _ _ c4 _ => (6 - c4.toInt).toNat, ⟨by decide, by decide, f3, r3, F3⟩, ?_⟩
  rintro c1 c2 c3 c4 u ⟨e1, e2, e3, e4, e5⟩
  unfold v_102_17
  refine ⟨fun _ => ⟨rfl, e3, e4, e5⟩, fun y x1 _ s4 hs4 x3 hx3 => ?_⟩
  have := hx3 (by omega)
  exact ⟨⟨by omega, by omega, by rw [hs4, zt_1]; exact e3, fun r hr => by rw [hs4, zt_o hr]; exact e4 r hr, by rw [hs4]; exact tw _ _ _ ⟨by decide, by decide⟩ e5⟩, by dsimp only; omega⟩
end ZZZH
