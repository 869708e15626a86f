/-! ===== the class: sigOf, funcOf, methodOwner, alike, meets in any state that is sane ===== -/
section ZZZD
variable {d P : Nat} {s u : zS} {a1 a2 : Int32} {t : Int}
theorem bd_rw (hP : P = 3 ∨ P = 39) (h : BDz s) : (∀ x, -1 ≤ (zg s (P + 24) x).toInt ∧ (zg s (P + 24) x).toInt ≤ 5000) ∧ (∀ x, -1 ≤ (zg s (P + 28) x).toInt ∧ (zg s (P + 28) x).toInt ≤ 5000) ∧ ∀ x, -1 ≤ (zg s (P + 30) x).toInt ∧ (zg s (P + 30) x).toInt ≤ 2000000000 := by
  have key : ∀ (a : Nat) (hi : Int), a ∈ rowL → ckR a = (-1, hi) → 0 ≤ hi → ∀ x : Int32, -1 ≤ (zg s a x).toInt ∧ (zg s a x).toInt ≤ hi := fun a hi ha hc h0 x => by
    unfold zg
    split
    · have := h.1 a ha x.toInt.toNat
      rw [hc] at this
      exact this
    · rw [show (0 : Int32).toInt = 0 by decide]
      omega
  rcases hP with rfl | rfl
  · exact ⟨key 27 5000 (by decide +kernel) (by decide +kernel) (by decide), key 31 5000 (by decide +kernel) (by decide +kernel) (by decide), key 33 2000000000 (by decide +kernel) (by decide +kernel) (by decide)⟩
  · exact ⟨key 63 5000 (by decide +kernel) (by decide +kernel) (by decide), key 67 5000 (by decide +kernel) (by decide +kernel) (by decide), key 69 2000000000 (by decide +kernel) (by decide +kernel) (by decide)⟩
theorem bd_fn (hP : P = 3 ∨ P = 39) (h : BDz s) (x : Int32) : -1 ≤ (zg s (P + 26) x).toInt ∧ (zg s (P + 26) x).toInt ≤ 5000 := by
  have key : ∀ a : Nat, a ∈ rowL → ckR a = (-1, 5000) → -1 ≤ (zg s a x).toInt ∧ (zg s a x).toInt ≤ 5000 := fun a ha hc => by
    unfold zg
    split
    · have := h.1 a ha x.toInt.toNat
      rw [hc] at this
      exact this
    · decide
  rcases hP with rfl | rfl
  · exact key 29 (by decide +kernel) (by decide +kernel)
  · exact key 65 (by decide +kernel) (by decide +kernel)
theorem zw_53 (hP : P = 3 ∨ P = 39) : Zt (d + 9) (wd P 53) 53 [.ref P, .int a1, .int a2] s (fun v s' => s' = s ∧ ∃ r : Int32, v = some (.int r) ∧ -1 ≤ r.toInt ∧ r.toInt ≤ 5000) := by
  refine Zt_bd (fun hB => zc_53 hP ?_)
  unfold v_53_0
  intro x1 _ x2 _
  refine ⟨fun _ _ c3 c4 u => u = s ∧ 0 ≤ c4.toInt ∧ -1 ≤ c3.toInt ∧ c3.toInt ≤ 5000, fun _ _ _ c4 _ => (60 - c4.toInt).toNat, ⟨rfl, by decide, (bd_rw hP hB).1 _⟩, ?_⟩
  rintro c1 c2 c3 c4 u ⟨e1, e2, e3⟩
  subst e1
  unfold v_53_11 v_53_39
  refine ⟨fun _ => ⟨rfl, -1, rfl, by decide, by decide⟩, fun y => ⟨fun _ => ⟨rfl, -1, rfl, by decide, by decide⟩, fun _ y1 _ y2 _ => ⟨fun _ y3 _ y4 _ y5 hy5 => ?_, fun _ => ⟨rfl, c3, rfl, e3⟩⟩⟩⟩
  have := hy5 (by omega)
  exact ⟨⟨rfl, by omega, bd_fn hP hB _⟩, by dsimp only; omega⟩
theorem zw_52 (hP : P = 3 ∨ P = 39) : Zt (d + 18) (wd P 52) 52 [.ref P, .int a1, .int a2] s (fun v s' => s' = s ∧ ∃ r : Int32, v = some (.int r)) := by
  refine Zt_bd (fun hB => zc_52 (d := d + 9) hP ?_)
  have hb := (bd_rw hP hB).1
  unfold v_52_0
  refine ⟨fun _ => ⟨fun _ => ?_, fun _ => ⟨rfl, -1, rfl⟩⟩, fun _ => ?_⟩
  · refine ⟨fun c1 _ _ c4 u => u = s ∧ c1 = a1 ∧ 0 ≤ c4.toInt ∧ c4.toInt ≤ 5001, fun _ _ _ c4 _ => (5001 - c4.toInt).toNat, ⟨rfl, rfl, by decide, by decide⟩, ?_⟩
    rintro c1 c2 c3 c4 u ⟨e1, e2, e3, e4⟩
    subst e1 e2
    have hc := hb (c1 * 6 + 4)
    unfold v_52_31
    refine ⟨fun _ => ⟨rfl, -1, rfl⟩, fun y x2 _ => ⟨fun _ x4 hx4 => ?_, fun _ x5 _ => ⟨rfl, x5, rfl⟩⟩⟩
    have := hx4 (by omega)
    exact ⟨⟨rfl, rfl, by omega, by omega⟩, by dsimp only; omega⟩
  · refine Zt.imp (Zt.mo (d := 9) (by omega) (zw_53 (d := 0) hP)) ?_
    rintro v2 s3 ⟨hs3, x4, rfl, -⟩
    subst hs3
    unfold v_52_17
    exact ⟨x4, rfl, fun _ => ⟨rfl, _, rfl⟩, fun _ => ⟨rfl, _, rfl⟩⟩
theorem zw_90 (hP : P = 3 ∨ P = 39) (h1 : sn a1) : Zt (d + 9) (wd P 90) 90 [.ref 75, .int a1] s (fun v s' => s' = s ∧ ∃ r : Int32, v = some (.int r) ∧ sn r) := by
  refine Zt_bd (fun hB => zc_90 hP ?_)
  have hb := (bd_rw hP hB).2.2
  have hs : ∀ x, sn (zg s (P + 30) x) := fun x => by
    have := hb x
    exact ⟨by omega, this.2⟩
  unfold v_90_0
  intro x1 _
  exact ⟨fun _ => ⟨fun _ x3 _ x4 _ => ⟨rfl, _, rfl, hs _⟩, fun _ x7 _ => ⟨rfl, _, rfl, hs _⟩⟩, fun _ => ⟨rfl, a1, rfl, h1⟩⟩
/-- alike -/
theorem zw_89 (hP : P = 3 ∨ P = 39) (ht : (s.1 75 3).toInt = t) (ht2 : 18 ≤ t ∧ t ≤ 900000000) (hE : snE s 80) (hF : snE s 78) : Zt (d + 18) (wd P 89) 89 [.ref 75, .int a1, .int a2] s (fun v s' => s'.1 = s.1 ∧ (∀ r, ¬ r = P + 18 → s'.2 r = s.2 r) ∧ ∃ r : Int32, v = some (.int r)) := by
  have h80 : ¬ 80 = P + 18 ∧ ¬ 78 = P + 18 ∧ ¬ P + 30 = P + 18 := by omega
  refine Zt_bd (fun hB => zc_89 (d := d + 9) hP ?_)
  obtain ⟨-, hb8, hb0⟩ := bd_rw hP hB
  unfold v_89_0
  refine ⟨fun _ => ?_, fun _ => ⟨rfl, fun _ _ => rfl, 7, rfl⟩⟩
  have k3 := hb8 (a1 * 5 + 3)
  have k4 := hb8 (a1 * 5 + 4)
  refine ⟨fun _ _ c3 c4 _ _ c7 u => c3 = zg s (P + 28) (a1 * 5 + 3) ∧ c4 = zg s (P + 28) (a1 * 5 + 4) ∧ 0 ≤ c7.toInt ∧ c7.toInt ≤ 10001 ∧ u.1 = s.1 ∧ ∀ r, ¬ r = P + 18 → u.2 r = s.2 r, fun _ _ _ _ _ _ c7 _ => (10001 - c7.toInt).toNat, ⟨rfl, rfl, by decide, by decide, rfl, fun _ _ => rfl⟩, ?_⟩
  rintro c1 c2 c3 c4 c5 c6 c7 u ⟨e3, e4, i1, i2, i3, i4⟩
  rw [← e3] at k3
  rw [← e4] at k4
  have snS : ∀ (w : zS) (x : Int32), (∀ r, ¬ r = P + 18 → w.2 r = s.2 r) → sn (zg w (P + 30) x) := fun w x hw => by
    have e : zg w (P + 30) x = zg s (P + 30) x := by
      unfold zg
      rw [hw _ h80.2.2]
    rw [e]
    have := hb0 x
    exact ⟨by omega, this.2⟩
  unfold v_89_35
  intro x1 hx1
  have ex1 := hx1 (by omega)
  have main : ¬ x1.toInt < c7.toInt → v_89_52 (fun j => Zt (d + 9 + 8) (wd P j) j) P (fun a1' a2' a3' a4' a5' a6' a7' s' => (a3' = zg s (P + 28) (a1 * 5 + 3) ∧ a4' = zg s (P + 28) (a1 * 5 + 4) ∧ 0 ≤ a7'.toInt ∧ a7'.toInt ≤ 10001 ∧ s'.1 = s.1 ∧ ∀ r, ¬ r = P + 18 → s'.2 r = s.2 r) ∧ (10001 - a7'.toInt).toNat < (10001 - c7.toInt).toNat) c1 c2 c3 c4 c5 c6 c7 u (fun v s' => s'.1 = s.1 ∧ (∀ r, ¬ r = P + 18 → s'.2 r = s.2 r) ∧ ∃ r : Int32, v = some (.int r)) := by
    intro y
    have fin : ∀ (t0 c9 : Int32) (w : zS), (∀ r, ¬ r = P + 18 → w.2 r = s.2 r) → (∀ b q, ¬ (b = 75 ∧ q = 3) → w.1 b q = s.1 b q) → v_89_82 (fun j => Zt (d + 9 + 8) (wd P j) j) P (fun a1' a2' a3' a4' a5' a6' a7' s' => (a3' = zg s (P + 28) (a1 * 5 + 3) ∧ a4' = zg s (P + 28) (a1 * 5 + 4) ∧ 0 ≤ a7'.toInt ∧ a7'.toInt ≤ 10001 ∧ s'.1 = s.1 ∧ ∀ r, ¬ r = P + 18 → s'.2 r = s.2 r) ∧ (10001 - a7'.toInt).toNat < (10001 - c7.toInt).toNat) c1 c2 c3 c4 c5 c6 c7 (u.1 75 3) c9 t0 w (fun v s' => s'.1 = s.1 ∧ (∀ r, ¬ r = P + 18 → s'.2 r = s.2 r) ∧ ∃ r : Int32, v = some (.int r)) := by
      intro t0 c9 w w1 w2
      unfold v_89_82
      intro s1 hs1
      have f1 : s1.1 = s.1 := by
        funext b q
        rw [hs1, zf_1]
        by_cases e : b = 75 ∧ q = 3
        · rw [if_pos e, i3, e.1, e.2]
        · rw [if_neg e, w2 b q e]
      have r1 : ∀ r, ¬ r = P + 18 → s1.2 r = s.2 r := fun r hr => by rw [hs1, zf_2]; exact w1 r hr
      refine ⟨fun _ => ?_, fun _ => ⟨f1, r1, 9, rfl⟩⟩
      refine Zt.imp (Zt.mo (d := 9) (by omega) (zw_84 (d := 0) hP)) ?_
      rintro v2 s3 ⟨hs3, x4, rfl⟩
      subst hs3
      refine ⟨x4, rfl, fun _ x5 hx5 => ?_, fun _ => ⟨f1, r1, 7, rfl⟩⟩
      have := hx5 (by omega)
      exact ⟨⟨e3, e4, by omega, by omega, f1, r1⟩, by omega⟩
    unfold v_89_52
    intro y1 _
    refine Zt.imp (Zt.mo (d := 9) (by omega) (zw_87 (d := 0) (t := t) hP (by decide) (snS u _ i4) (by rw [i3]; exact ht) (by omega) (fun i => by rw [i4 80 h80.1]; exact hE i))) ?_
    rintro v3 s4 ⟨p1, p2, p3, x5, rfl, -⟩
    have q4 : ∀ r, ¬ r = P + 18 → s4.2 r = s.2 r := fun r hr => by rw [p1 r hr, i4 r hr]
    have f4 : ∀ b q, ¬ (b = 75 ∧ q = 3) → s4.1 b q = s.1 b q := fun b q hb => by rw [p2 b q hb, i3]
    refine ⟨x5, rfl, fun _ y6 _ => ?_, fun _ => fin _ _ s4 q4 f4⟩
    obtain ⟨t4, ht4⟩ : ∃ t4, (s4.1 75 3).toInt = t4 := ⟨_, rfl⟩
    rw [ht4] at p3
    refine Zt.imp (Zt.mo (d := 9) (by omega) (zw_87 (d := 0) (t := t4) hP (by decide) (snS s4 _ q4) ht4 (by omega) (fun i => by rw [q4 78 h80.2.1]; exact hF i))) ?_
    rintro v8 s9 ⟨m1, m2, -, x10, rfl, -⟩
    exact ⟨x10, rfl, fin _ _ s9 (fun r hr => by rw [m1 r hr, q4 r hr]) (fun b q hb => by rw [m2 b q hb, f4 b q hb])⟩
  exact ⟨fun _ => ⟨i3, i4, 0, rfl⟩, fun y => ⟨fun _ => main y, fun _ => ⟨fun _ => main y, fun _ => ⟨i3, i4, 7, rfl⟩⟩⟩⟩
end ZZZD
