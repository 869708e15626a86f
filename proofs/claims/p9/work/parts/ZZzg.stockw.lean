/-! ===== the class: Stock's find and copy in any sane state ===== -/
/-- a place that may be held -/
def sq (x : Int32) : Prop := -1000 ≤ x.toInt ∧ x.toInt ≤ 1000000000
section ZZZG
variable {d P : Nat} {s u : zS} {a1 a2 : Int32} {nx : Int}
theorem sq_sn {x : Int32} (h : sq x) : sn x := ⟨h.1, by have := h.2; omega⟩
theorem SN_q (e : Nat) (h : SNz s) (x : Int32) (he : skB e = true := by decide) (hm : skM e = 1000000000 := by decide) : sq (zg s e x) := by
  have := SN_g h he x
  rw [hm] at this
  exact this
theorem zw_98 (hP : P = 3 ∨ P = 39) (hT : SNz s) : Zt (d + 18) (wd2 P 98) 98 [.ref 197, .int a1] s (fun v s' => s' = s ∧ ∃ r : Int32, v = some (.int r) ∧ sq r) := by
  refine Zt_bd (fun hB => zc_98 (d := d + 9) hP ?_)
  have h2 := hB.2 198 2 0 151 (by decide +kernel) (by decide +kernel)
  unfold v_98_0
  refine ⟨fun _ c2 u => u = s ∧ 0 ≤ c2.toInt ∧ c2.toInt ≤ 151, fun _ c2 _ => (151 - c2.toInt).toNat, ⟨rfl, by decide, by decide⟩, ?_⟩
  rintro c1 c2 u ⟨e1, e2, e3⟩
  subst e1
  unfold v_98_2
  refine ⟨fun _ => ⟨rfl, -1, rfl, ⟨by decide, by decide⟩⟩, fun y => ?_⟩
  refine Zt.imp (Zt.mo (d := 9) (by omega) (zw_84 (d := 0) hP)) ?_
  rintro v1 s2 ⟨hs2, x3, rfl⟩
  subst hs2
  refine ⟨x3, rfl, fun _ x4 hx4 => ?_, fun _ => ⟨rfl, _, rfl, ?_⟩⟩
  · have := hx4 (by omega)
    exact ⟨⟨rfl, by omega, by omega⟩, by dsimp only; omega⟩
  · exact SN_g hT (by decide) _
theorem zw_107 (hP : P = 3 ∨ P = 39) (h7 : (s.1 197 7).toInt = nx) (hx : 18 ≤ nx ∧ nx ≤ 1000000000) (h2 : 0 ≤ a2.toInt ∧ a2.toInt ≤ 4000) : Zt (d + 9) (wd2 P 107) 107 [.ref 197, .int a1, .int a2] s (fun v s' => (∀ r, ¬ r = P + 18 → s'.2 r = s.2 r) ∧ (∀ b q, ¬ (b = 197 ∧ q = 7) → s'.1 b q = s.1 b q) ∧ (s'.1 197 7).toInt = nx + a2.toInt ∧ ∃ r : Int32, v = some (.int r) ∧ r.toInt = nx) := by
  have z0 : (0 : Int32).toInt = 0 := by decide
  refine zc_107 hP ?_
  unfold v_107_0
  refine ⟨fun _ c2 c3 c4 u => c2 = a2 ∧ c3 = s.1 197 7 ∧ 0 ≤ c4.toInt ∧ c4.toInt ≤ a2.toInt ∧ u.1 = s.1 ∧ ∀ r, ¬ r = P + 18 → u.2 r = s.2 r, fun _ _ _ c4 _ => (a2.toInt - c4.toInt).toNat, ⟨rfl, rfl, by decide, by omega, rfl, fun _ _ => rfl⟩, ?_⟩
  rintro c1 c2 c3 c4 u ⟨e2, e3, i1, i2, i3, i4⟩
  subst e2
  have h3 : c3.toInt = nx := by
    rw [e3]
    exact h7
  unfold v_107_5
  refine ⟨fun y x1 hx1 s2 hs2 => ?_, fun y x3 hx3 x4 _ => ?_⟩
  · have ex := hx1 (by omega)
    refine ⟨fun r hr => by rw [hs2, zf_2]; exact i4 r hr, fun b q hb => by rw [hs2, zf_1, if_neg hb, i3], ?_, c3, rfl, h3⟩
    rw [hs2, zf_1, if_pos ⟨rfl, rfl⟩]
    omega
  · have ex := hx3 (by omega)
    refine ⟨Or.inr (by omega), fun s5 hs5 x6 hx6 => ?_⟩
    have e6 := hx6 (by omega)
    exact ⟨⟨rfl, e3, by omega, by omega, by rw [hs5, zt_1]; exact i3, fun r hr => by rw [hs5, zt_o hr]; exact i4 r hr⟩, by dsimp only; omega⟩
end ZZZG
