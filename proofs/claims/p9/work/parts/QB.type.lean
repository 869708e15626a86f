/-! ===== addDecl, addType, addFunc ===== -/
def DCat (s : zS) (P D : Nat) (w b e : Int) : Prop := (s.2 (P + 32) (3 * D)).toInt = w ∧ (s.2 (P + 32) (3 * D + 1)).toInt = b ∧ (s.2 (P + 32) (3 * D + 2)).toInt = e
/-- a type: its name's token, form, slots, members, how many; its last func -/
def TYat (s : zS) (P T : Nat) (q f b m c u : Int) : Prop := (s.2 (P + 24) (6 * T)).toInt = q ∧ (s.2 (P + 24) (6 * T + 1)).toInt = f ∧ (s.2 (P + 24) (6 * T + 2)).toInt = b ∧ (s.2 (P + 24) (6 * T + 3)).toInt = m ∧ (s.2 (P + 24) (6 * T + 4)).toInt = c ∧ (s.2 (P + 24) (6 * T + 5)).toInt = u
/-- a func as it is read -/
def FNat (s : zS) (P F : Nat) (q v st b c sg bd cd nx : Int) : Prop := (s.2 (P + 26) (10 * F)).toInt = q ∧ (s.2 (P + 26) (10 * F + 1)).toInt = v ∧ (s.2 (P + 26) (10 * F + 2)).toInt = st ∧ (s.2 (P + 26) (10 * F + 3)).toInt = b ∧ (s.2 (P + 26) (10 * F + 4)).toInt = c ∧ (s.2 (P + 26) (10 * F + 5)).toInt = sg ∧ (s.2 (P + 26) (10 * F + 6)).toInt = (s.2 (P + 28) (5 * sg.toNat + 1)).toInt ∧ (s.2 (P + 26) (10 * F + 7)).toInt = bd ∧ (s.2 (P + 26) (10 * F + 8)).toInt = cd ∧ (s.2 (P + 26) (10 * F + 9)).toInt = nx
section ZQB
variable {d P k : Nat} {s s' s'' u u' u'' : zS} {K L : Int → Int} {n lo hi t c kd sg : Int} {a1 a2 a3 a4 a5 a6 x r : Int32} {R R' : List Nat} {σ : RSt}
theorem zs_58 (hP : P = 3 ∨ P = 39) (hD : RDz K L P n s) (h1 : -5000 ≤ a1.toInt ∧ a1.toInt ≤ 5000) (h2 : -5000 ≤ a2.toInt ∧ a2.toInt ≤ 5000) : Zt (d + 9) (wd P 58) 58 [.ref P, .int a1, .int a2] s (fun v s' => v = none ∧ FZq [32] P s s' ∧ zSz P s' ∧ RS P s' = RS P s ∧ RDz K L P n s' ∧ s'.2 (P + 12) = s.2 (P + 12) ∧ s'.2 (P + 22) = s.2 (P + 22) ∧ ∀ D : Nat, zsz s (P + 32) = 3 * (D : Int) → D + 1 ≤ 84 → zsz s' (P + 32) = 3 * ((D : Int) + 1) ∧ DCat s' P D a1.toInt a2.toInt (zsz s (P + 30) / 5)) := by
  refine Zt_bd (fun hB => ?_)
  have g := BD_sz hP hB
  have l30 := g 30 (by decide)
  rw [(limR hP).2.2.2.2.1] at l30
  refine zc_58 hP ?_
  unfold v_58_0
  refine ⟨by omega, fun s1 hs1 => ⟨by omega, fun s2 hs2 => ?_⟩⟩
  have e2 : s2.1 (P + 30) 2 = s.1 (P + 30) 2 := by
    have q := zaL_q (vs := [a1, a2]) hP (show 32 ∈ rwL by decide) g
    have e : s2 = zaL (P + 32) [a1, a2] s := by rw [hs2, hs1]; rfl
    rw [← e] at q
    exact q.1.1 (P + 30) 2 (by omega) (by omega) (fun r hr w => by rw [List.mem_singleton.mp hr] at w; omega)
  have ed : (s2.1 (P + 30) 2 / 5).toInt = zsz s (P + 30) / 5 := by
    rw [e2]
    exact i_div5 rfl l30.1
  refine ⟨by rw [ed]; omega, fun s3 hs3 => ?_⟩
  have e5 : s3 = zaL (P + 32) [a1, a2, s2.1 (P + 30) 2 / 5] s := by
    rw [hs3, hs2, hs1]
    rfl
  obtain ⟨q1, q2, q3, q4, q5, q6, q7⟩ := zaL_q (vs := [a1, a2, s2.1 (P + 30) 2 / 5]) hP (show 32 ∈ rwL by decide) g
  rw [← e5] at q1 q2 q3 q4 q5 q6 q7
  clear e5 hs3 hs2 hs1
  refine ⟨rfl, q1, q2, q3, FZq_RDz q1 (fun r hr => by rw [List.mem_singleton.mp hr]; decide) hP hD q4, q5, q6, fun D hk hk2 => ?_⟩
  obtain ⟨z1, z2⟩ := q7 (by rw [(limR hP).2.2.2.2.2, hk]; simp only [List.length_cons, List.length_nil]; omega)
  have ez : (zsz s (P + 32)).toNat = 3 * D := by omega
  rw [ez] at z2
  refine ⟨by rw [z1, hk]; simp only [List.length_cons, List.length_nil]; omega, congrArg Int32.toInt (z2 0 a1 rfl), by rw [z2 1 a2 rfl], ?_⟩
  rw [z2 2 _ rfl, ed]
/-- addType -/
theorem zs_56 (hP : P = 3 ∨ P = 39) (hD : RDz K L P n s) (h1 : -1 ≤ a1.toInt ∧ a1.toInt ≤ 5000) (h2 : -1 ≤ a2.toInt ∧ a2.toInt ≤ 5000) (h3 : -1 ≤ a3.toInt ∧ a3.toInt ≤ 5000) (h4 : 0 ≤ a4.toInt ∧ a4.toInt ≤ 7) (h5 : -1 ≤ a5.toInt ∧ a5.toInt ≤ 5000) (h6 : -1 ≤ a6.toInt ∧ a6.toInt ≤ 5000) : Zt (d + 10) (wd P 56) 56 [.ref P, .int a1, .int a2, .int a3, .int a4, .int a5, .int a6] s (fun v s' => v = none ∧ FZq [24, 32] P s s' ∧ RS P s' = RS P s ∧ RDz K L P n s' ∧ s'.2 (P + 12) = s.2 (P + 12) ∧ ∀ T D : Nat, zsz s (P + 24) = 6 * (T : Int) → zsz s (P + 32) = 3 * (D : Int) → T + 1 ≤ 24 → D + 1 ≤ 84 → zsz s' (P + 24) = 6 * ((T : Int) + 1) ∧ zsz s' (P + 32) = 3 * ((D : Int) + 1) ∧ (∀ i : Nat, s'.2 (P + 22) i = if i = T then a4 else s.2 (P + 22) i) ∧ TYat s' P T a1.toInt a2.toInt a3.toInt a5.toInt a6.toInt (-1) ∧ DCat s' P D (T : Int) a3.toInt (zsz s (P + 30) / 5)) := by
  refine Zt_bd (fun hB => ?_)
  have g := BD_sz hP hB
  have l24 := g 24 (by decide)
  rw [(limR hP).2.1] at l24
  refine zc_56 (d := d + 1) hP ?_
  unfold v_56_0
  have et : (s.1 (P + 24) 2 / 6).toInt = zsz s (P + 24) / 6 := i_div6 rfl l24.1
  refine ⟨h4, fun s1 hs1 => ?_⟩
  have e11 : s1.1 = s.1 := by
    rw [hs1]
    unfold zt
    split <;> rfl
  have e12 : ∀ a, ¬ a = P + 22 → s1.2 a = s.2 a := fun a ha => by
    rw [hs1]
    unfold zt
    split
    · exact funext (fun j => by rw [zr_2, if_neg (fun w => ha w.1)])
    · rfl
  have F1 : FZq [] P s s1 := ⟨fun a q _ _ _ => by rw [e11], fun a _ h22 _ => e12 a h22, fun r hr => absurd hr List.not_mem_nil⟩
  have R1 : RS P s1 = RS P s := by
    unfold RS
    rw [e11]
  have ml : ∀ r ∈ [24, 32], r ∈ rwL := by decide
  have D1 : RDz K L P n s1 := FZq_RDz F1 (fun r hr => absurd hr List.not_mem_nil) hP hD (by rw [e11])
  refine Zt.imp (Zt.mo (d := 9) (by omega) (zs_58 (d := 0) (a1 := s1.1 (P + 24) 2 / 6) (a2 := a3) hP D1 (by rw [e11, et]; omega) (by omega))) ?_
  rintro v2 s3 ⟨rfl, q1, g3, q2, q3, q4, q5, q6⟩
  refine ⟨rfl, by omega, fun s4 hs4 => ⟨by omega, fun s5 hs5 => ⟨by omega, fun s6 hs6 => ⟨by omega, fun s7 hs7 => ⟨by omega, fun s8 hs8 s9 hs9 => ?_⟩⟩⟩⟩⟩
  have e9 : s9 = zaL (P + 24) [a1, a2, a3, a5, a6, -1] s3 := by
    rw [hs9, hs8, hs7, hs6, hs5, hs4]
    rfl
  obtain ⟨c1, c2, c3, c4, c5, c6, c7⟩ := zaL_q (vs := [a1, a2, a3, a5, a6, -1]) hP (show 24 ∈ rwL by decide) g3
  rw [← e9] at c1 c2 c3 c4 c5 c6 c7
  clear e9 hs9 hs8 hs7 hs6 hs5 hs4
  have F9 : FZq [24, 32] P s s9 := FZq_tr (FZq_mo F1 hP (fun r hr => absurd hr List.not_mem_nil) ml) (FZq_tr (FZq_mo q1 hP (fun r hr => by rw [List.mem_singleton.mp hr]; decide) ml) (FZq_mo c1 hP (fun r hr => by rw [List.mem_singleton.mp hr]; decide) ml))
  refine ⟨rfl, F9, by rw [c3, q2, R1], FZq_RDz c1 (fun r hr => by rw [List.mem_singleton.mp hr]; decide) hP q3 c4, by rw [c5, q4, e12 _ (by omega)], fun T D hT hD hT2 hD2 => ?_⟩
  have z24 : zsz s3 (P + 24) = 6 * (T : Int) := by
    rw [FZq_sz q1 (by decide) hP (by decide)]
    unfold zsz
    rw [e11]
    exact hT
  have z32 : zsz s1 (P + 32) = 3 * (D : Int) := by
    unfold zsz
    rw [e11]
    exact hD
  obtain ⟨y1, y2⟩ := q6 D z32 hD2
  obtain ⟨x1, x2⟩ := c7 (by rw [(limR hP).2.1, z24]; simp only [List.length_cons, List.length_nil]; omega)
  have ez : (zsz s3 (P + 24)).toNat = 6 * T := by omega
  rw [ez] at x2
  have eT : (s.1 (P + 24) 2 / 6).toInt = (T : Int) := by rw [et, hT]; omega
  refine ⟨by rw [x1, z24]; simp only [List.length_cons, List.length_nil]; omega, by rw [FZq_sz c1 (by decide) hP (by decide), y1], fun i => ?_, ⟨congrArg Int32.toInt (x2 0 a1 rfl), by rw [x2 1 a2 rfl], by rw [x2 2 a3 rfl], by rw [x2 3 a5 rfl], by rw [x2 4 a6 rfl], by rw [x2 5 (-1) rfl]; decide⟩, ?_⟩
  · rw [c6, q5, hs1, zt_in (a := P + 22) (by rw [(limR hP).1, eT]; omega), zr_2, eT]
    by_cases e : i = T
    · rw [if_pos ⟨rfl, by omega⟩, if_pos e]
    · rw [if_neg (by omega), if_neg e]
  · have e30 : zsz s1 (P + 30) = zsz s (P + 30) := by
      unfold zsz
      rw [e11]
    have er : s9.2 (P + 32) = s3.2 (P + 32) := FZq_row c1 (by decide) (by decide) (by decide)
    rw [e11, eT, e30] at y2
    unfold DCat at y2 ⊢
    rw [er]
    exact y2
end ZQB
