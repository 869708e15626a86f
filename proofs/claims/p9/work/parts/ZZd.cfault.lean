/-! ===== the class, behind a fault ===== -/
section ZZFX
variable {d P : Nat} {s : zS} {a1 a2 a3 a4 a5 a6 a7 a8 a9 a10 a11 a12 t1 t2 : Int32} {Q : Option Value → zS → Prop}
theorem zs_83x (hP : P = 3 ∨ P = 39) : Zt (d + 9) (wd P 83) 83 [.ref 75, .int a1] s (fun v s' => s' = s ∧ ∃ r : Int32, v = some (.int r) ∧ (0 ≤ a1.toInt ∧ a1.toInt ≤ 100000 → a1.toInt ≤ r.toInt ∧ r.toInt ≤ a1.toInt + 4000)) := by
  refine zc_83 hP ?_
  unfold v_83_0
  have z0 : (0 : Int32).toInt = 0 := by decide
  refine ⟨fun _ c2 _ c4 u => u = s ∧ 0 ≤ c4.toInt ∧ (0 ≤ a1.toInt ∧ a1.toInt ≤ 100000 → c2.toInt = a1.toInt + c4.toInt ∧ c4.toInt ≤ 4000), fun _ _ _ c4 _ => (4000 - c4.toInt).toNat, ⟨rfl, by decide, fun _ => by omega⟩, ?_⟩
  rintro c1 c2 c3 c4 u ⟨e1, e2, e3⟩
  subst e1
  unfold v_83_6 v_83_26
  refine ⟨fun _ => ⟨rfl, c2, rfl, fun q => by have := e3 q; omega⟩, fun y => ⟨fun _ => ⟨rfl, c2, rfl, fun q => by have := e3 q; omega⟩, fun y1 x1 hx1 x2 hx2 x3 hx3 x4 hx4 => ?_⟩⟩
  have h4 := hx4 (by omega)
  exact ⟨⟨rfl, by omega, fun q => by have := e3 q; have := hx3 (by omega); omega⟩, by dsimp only; omega⟩
theorem BD_tyz (hP : P = 3 ∨ P = 39) (h : BDz s) (x : Int32) : -1 ≤ (zg s (P + 24) x).toInt ∧ (zg s (P + 24) x).toInt ≤ 5000 := by
  have e : ∀ i, -1 ≤ (s.2 (P + 24) i).toInt ∧ (s.2 (P + 24) i).toInt ≤ 5000 := fun i => by
    rcases hP with rfl | rfl
    · have := h.1 27 (by decide +kernel) i
      rw [show ckR 27 = (-1, 5000) by decide +kernel] at this
      exact this
    · have := h.1 63 (by decide +kernel) i
      rw [show ckR 63 = (-1, 5000) by decide +kernel] at this
      exact this
  unfold zg
  split
  · exact e _
  · decide
theorem zs_38x (hP : P = 3 ∨ P = 39) (hf : ¬ (s.1 P 14).toInt = 0) : Zt (d + 9) (wd P 38) 38 [.ref P, .int a1, .int a2] s (fun v s' => v = none ∧ s' = s) := by
  refine zc_38 hP ?_
  unfold v_38_0 v_38_16
  exact ⟨fun _ => ⟨rfl, rfl⟩, fun z => absurd z hf⟩
theorem zt_1 {a : Nat} {x v : Int32} : (zt s a x v).1 = s.1 := by
  unfold zt
  split <;> rfl
theorem zs_91x (hP : P = 3 ∨ P = 39) (h2 : 18 ≤ a2.toInt ∧ a2.toInt ≤ 100000) : Zt (d + 10) (wd P 91) 91 [.ref 75, .int a1, .int a2] s (fun v s' => (∃ r : Int32, v = some (.int r)) ∧ s'.1 P 14 = s.1 P 14) := by
  have hP75 : ¬ (P = 75 ∧ (14 : Nat) = 3) := fun z => absurd z.2 (by decide)
  have f6 : v_91_6 (fun j => Zt (d + 1 + 8) (wd P j) j) P a1 a2 s (fun v s' => (∃ r : Int32, v = some (.int r)) ∧ s'.1 P 14 = s.1 P 14) := by
    unfold v_91_6
    intro s1 hs1
    refine ⟨⟨a1, rfl⟩, ?_⟩
    rw [hs1, zf_1, if_neg hP75]
  rw [show d + 10 = d + 1 + 9 by omega]
  refine zc_91 hP ?_
  unfold v_91_0
  refine ⟨fun _ => f6, fun w1 => ⟨fun w2 => ?_, fun _ => f6⟩⟩
  refine Zt.imp (zs_83x (d := d) hP) ?_
  rintro v1 s2 ⟨hs2, x3, rfl, hb⟩
  subst hs2
  refine ⟨x3, rfl, fun x4 hx4 => ?_⟩
  have hb := hb ⟨by omega, by omega⟩
  have e4 := hx4 (by omega)
  have z0 : (0 : Int32).toInt = 0 := by decide
  refine ⟨fun _ b2 b3 b4 u => b2 = a2 ∧ b3 = x4 ∧ 0 ≤ b4.toInt ∧ u.1 P 14 = s2.1 P 14, fun _ _ b3 b4 _ => (b3.toInt - b4.toInt).toNat, ⟨rfl, rfl, by omega, rfl⟩, ?_⟩
  rintro b1 b2 b3 b4 u ⟨e2, e3, e5, eu⟩
  subst e2 e3
  unfold v_91_19
  refine ⟨fun _ x1 _ s3 hs3 => ⟨⟨b2, rfl⟩, ?_⟩, fun w x3' hx3' x4' _ => ⟨Or.inr (by have := hx3' (by omega); omega), fun s5 hs5 x6 hx6 => ?_⟩⟩
  · rw [hs3, zf_1, if_neg hP75]
    exact eu
  · have h6 := hx6 (by omega)
    exact ⟨⟨rfl, rfl, by omega, by rw [hs5, zt_1]; exact eu⟩, by dsimp only; omega⟩
theorem zs_135x (hP : P = 3 ∨ P = 39) (hf : ¬ (s.1 P 14).toInt = 0) : Zt (d + 9) (wd P 135) 135 [.ref 83, .int a1, .int a2] s (fun v s' => v = none ∧ s' = s) := by
  refine zc_135 hP ?_
  unfold v_135_0
  refine ⟨fun _ b2 _ u => b2 = a2 ∧ u = s, fun _ _ b3 _ => (a2.toInt - b3.toInt).toNat, ⟨rfl, rfl⟩, ?_⟩
  rintro b1 b2 b3 u ⟨e2, eu⟩
  subst e2 eu
  unfold v_135_2
  refine ⟨fun _ => ⟨rfl, rfl⟩, fun w => ?_⟩
  refine ⟨fun c1 c2 c3 c4 v => c2 = b2 ∧ c3 = b3 ∧ v = u, fun _ _ _ _ _ => 0, ⟨rfl, rfl, rfl⟩, ?_⟩
  rintro c1 c2 c3 c4 v ⟨g2, g3, gv⟩
  subst g2 g3 gv
  have out : ∀ x1 : Int32, (-2147483648 ≤ c3.toInt + 1 ∧ c3.toInt + 1 ≤ 2147483647 → x1.toInt = c3.toInt + 1) → (c2.toInt - x1.toInt).toNat < (c2.toInt - c3.toInt).toNat := fun x1 hx1 => by
    have := hx1 (by have := Int32.toInt_lt c2; have := Int32.le_toInt c3; omega)
    omega
  unfold v_135_7 v_135_120
  exact ⟨fun _ x1 hx1 => ⟨⟨rfl, rfl⟩, out x1 hx1⟩, fun _ => ⟨fun _ x1 hx1 => ⟨⟨rfl, rfl⟩, out x1 hx1⟩, fun z => absurd z hf⟩⟩
theorem zs_15x (hP : P = 3 ∨ P = 39) (hf : ¬ (s.1 P 14).toInt = 0) : Zt (d + 9) (wd P 15) 15 [.ref 84, .int a1, .int a2, .int a3, .int a4] s (fun v s' => v = none ∧ s' = s) := by
  refine zc_15 hP ?_
  unfold v_15_0
  refine ⟨fun _ _ _ _ _ _ u => u = s, fun _ _ _ _ _ _ _ => 0, rfl, ?_⟩
  rintro b1 b2 b3 b4 b5 b6 u eu
  subst eu
  unfold v_15_4 v_15_70
  exact ⟨fun _ => ⟨rfl, rfl⟩, fun _ => ⟨fun _ => ⟨rfl, rfl⟩, fun z => absurd z hf⟩⟩
theorem zs_11x (hP : P = 3 ∨ P = 39) (hf : ¬ (s.1 P 14).toInt = 0) : Zt (d + 9) (wd P 11) 11 [.ref 84, .int a1, .int a2, .int a3, .int a4, .int a5, .int a6] s (fun v s' => v = none ∧ s'.1 P 14 = s.1 P 14) := by
  have hP84 : ¬ (P = 84 ∧ (14 : Nat) = 5) := fun z => absurd z.2 (by decide)
  refine zc_11 hP ?_
  unfold v_11_0
  intro x1 _ s2 hs2
  have e2 : s2.1 P 14 = s.1 P 14 := by rw [hs2, zf_1, if_neg hP84]
  refine ⟨fun _ _ _ _ _ _ _ u => u = s2, fun _ _ _ _ _ _ _ _ => 0, rfl, ?_⟩
  rintro b1 b2 b3 b4 b5 b6 b7 u eu
  subst eu
  have out : v_11_87 (fun j => Zt (d + 8) (wd P j) j) P b1 b2 b3 b4 b5 b6 b7 u (fun v s' => v = none ∧ s'.1 P 14 = s.1 P 14) := by
    unfold v_11_87
    intro x1 _ s3 hs3
    refine ⟨rfl, ?_⟩
    rw [hs3, zf_1, if_neg hP84]
    exact e2
  unfold v_11_8
  exact ⟨fun _ => out, fun _ => ⟨fun _ => out, fun z => absurd z (by rw [e2]; exact hf)⟩⟩
/-- the rest of literal -/
theorem l_58x (hP : P = 3 ∨ P = 39) (hf : ¬ (s.1 P 14).toInt = 0) (h3 : -1000 ≤ a3.toInt ∧ a3.toInt ≤ 100000) (h5 : BDz s → -1000 ≤ a5.toInt ∧ a5.toInt ≤ 100000) (hQ : ∀ s' : zS, s'.1 P 14 = s.1 P 14 → Q (some (.int a3)) s') : v_10_58 (fun j => Zt (d + 9) (wd P j) j) P a1 a2 a3 a4 a5 s Q := by
  have hP34 : ¬ (P = P + 34 ∧ (14 : Nat) = 2) := fun z => absurd z.2 (by decide)
  unfold v_10_58
  refine Zt_bd (fun hB => ?_)
  refine Zt.imp (zs_59 (d := d) hP (by decide) h3 (by decide) (by decide) (by decide) (by decide)) ?_
  rintro v1 s2 ⟨rfl, g2⟩
  have e2 := g2.2 P 14 hP34
  refine ⟨rfl, Zt.imp (zs_11x (d := d) hP (by rw [e2]; exact hf)) ?_⟩
  rintro v4 s5 ⟨rfl, e5⟩
  refine ⟨rfl, Zt.imp (zs_59 (d := d) hP (by decide) (by decide) (h5 hB) (by decide) (by decide) (by decide)) ?_⟩
  rintro v6 s7 ⟨rfl, g7⟩
  exact ⟨rfl, hQ s7 (by rw [g7.2 P 14 hP34, e5, e2])⟩
/-- the rest of method, from parts on -/
theorem m_11y {Cn : zS → Prop} (hP : P = 3 ∨ P = 39) (hf : ¬ (s.1 P 14).toInt = 0) (h7 : -1000 ≤ a7.toInt ∧ a7.toInt ≤ 100000) (h9 : -1000 ≤ a9.toInt ∧ a9.toInt ≤ 100000) (h10 : -1000 ≤ a10.toInt ∧ a10.toInt ≤ 100000) (h11 : -1000 ≤ a11.toInt ∧ a11.toInt ≤ 100000) (hC : ∀ s' : zS, s'.1 P 14 = s.1 P 14 → Cn s') : Zt (d + 9) (wd P 11) 11 [.ref 84, .int a1, .int a2, .int a4, .int a5, .int a6, .int a8] s (fun v8 s9 => v8 = none ∧ (Zt (d + 9) (wd P 59) 59 [.ref P, .int 5, .int (zg s9 (P + 10) a3), .int a7, .int a11, .int a9, .int a10] s9 (fun v10 s11 => v10 = none ∧ Cn s11))) := by
  have hP34 : ¬ (P = P + 34 ∧ (14 : Nat) = 2) := fun z => absurd z.2 (by decide)
  refine Zt.imp (zs_11x (d := d) hP hf) ?_
  rintro v8 s9 ⟨rfl, e9⟩
  refine ⟨rfl, Zt_bd (fun hB => Zt.imp (zs_59 (d := d) hP (by decide) (by have := BD_wd hP hB a3.toInt; rw [zg_K]; omega) h7 h11 h9 h10) ?_)⟩
  rintro v10 s11 ⟨rfl, g11⟩
  exact ⟨rfl, hC s11 (by rw [g11.2 P 14 hP34, e9])⟩
/-- the rest of method, from the look at its TYPES on -/
theorem m_126x (hP : P = 3 ∨ P = 39) (hf : ¬ (s.1 P 14).toInt = 0) (h7 : -1000 ≤ a7.toInt ∧ a7.toInt ≤ 100000) (h9 : -1000 ≤ a9.toInt ∧ a9.toInt ≤ 100000) (h10 : -1000 ≤ a10.toInt ∧ a10.toInt ≤ 100000) (h11 : -1000 ≤ a11.toInt ∧ a11.toInt ≤ 100000) (hQ : ∀ s' : zS, s'.1 P 14 = s.1 P 14 → Q (some (.int a1)) s') : v_14_126 (fun j => Zt (d + 9) (wd P j) j) P a1 a2 a3 a4 a5 a6 a7 a8 a9 a10 a11 a12 t1 t2 s Q := by
  have hP84 : ¬ (P = 84 ∧ (14 : Nat) = 5) := fun z => absurd z.2 (by decide)
  unfold v_14_126
  intro x1 _ s2 hs2
  have e2 : s2.1 P 14 = s.1 P 14 := by rw [hs2, zf_1, if_neg hP84]
  refine Zt.imp (zs_135x (d := d) hP (by rw [e2]; exact hf)) ?_
  rintro v3 s4 ⟨rfl, hs4⟩
  subst hs4
  refine ⟨rfl, Zt.imp (zs_15x (d := d) hP (by rw [e2]; exact hf)) ?_⟩
  rintro v5 s6 ⟨rfl, hs6⟩
  subst hs6
  refine ⟨rfl, fun x7 _ => m_11y (d := d) hP (by rw [e2]; exact hf) h7 h9 h10 h11 (fun s11 e11 => ?_)⟩
  exact ⟨fun _ => hQ s11 (by rw [e11, e2]), fun z => absurd z (by rw [e11, e2]; exact hf)⟩
end ZZFX
