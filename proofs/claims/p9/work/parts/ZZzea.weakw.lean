/-! ===== the class: put, alike, meets in any sane state: the words they write (wip/p5/mkw.py) ===== -/
/-- words from t on, ahead of t + m, may be others; no other Row -/
def WPf (P : Nat) (t m : Int) (s s' : zS) : Prop := (∀ r, ¬ r = P + 18 → s'.2 r = s.2 r) ∧ ∀ j : Nat, ((j : Int) < t ∨ t + m ≤ (j : Int)) → s'.2 (P + 18) j = s.2 (P + 18) j
section ZZZEA
variable {d P e : Nat} {s u w : zS} {a1 a2 : Int32} {t : Int}
theorem WPf_rf {m : Int} : WPf P t m s s := ⟨fun _ _ => rfl, fun _ _ => rfl⟩
theorem WPf_tr {m t' m' : Int} (h : WPf P t m s u) (g : WPf P t' m' u w) (h1 : t ≤ t') (h2 : t' + m' ≤ t + m) : WPf P t m s w := ⟨fun r hr => (g.1 r hr).trans (h.1 r hr), fun j hj => (g.2 j (by omega)).trans (h.2 j hj)⟩
theorem WPf_t {m : Int} {x v : Int32} (h : WPf P t m s u) (hw : w = zt u (P + 18) x v) (h1 : t ≤ x.toInt) (h2 : x.toInt < t + m) : WPf P t m s w := by
  refine ⟨fun r hr => by rw [hw, zt_o hr]; exact h.1 r hr, fun j hj => ?_⟩
  rw [hw]
  unfold zt
  split
  · rw [zr_2, if_neg (fun z => by omega)]
    exact h.2 j hj
  · exact h.2 j hj
theorem zw_87w {t : Int} (hP : P = 3 ∨ P = 39) (he : skE e = true) (h1 : sn a1) (ht : (s.1 75 3).toInt = t) (ht2 : 18 ≤ t ∧ t ≤ 1000000000) (hE : snE s e) : Zt (d + 9) (wd P 87) 87 [.ref 75, .int a1, .ref e] s (fun v s' => WPf P t 60 s s' ∧ (∀ b q, ¬ (b = 75 ∧ q = 3) → s'.1 b q = s.1 b q) ∧ (t ≤ (s'.1 75 3).toInt ∧ (s'.1 75 3).toInt ≤ t + 60) ∧ ∃ r : Int32, v = some (.int r) ∧ (r.toInt = -1 ∨ r = a1 ∨ r.toInt = t) ∧ ((s'.1 75 3).toInt = t ∨ r.toInt = t)) := by
  obtain ⟨h11, h12⟩ := h1
  have heP : ¬ e = P + 18 := (ev_P hP he).1
  have z0 : (0 : Int32).toInt = 0 := by decide
  refine zc_87 hP he ?_
  unfold v_87_0
  refine ⟨fun b1 b3 _ _ b6 u => b1 = a1 ∧ 0 ≤ b3.toInt ∧ b3.toInt ≤ 60 ∧ a1.toInt ≤ b6.toInt ∧ b6.toInt ≤ a1.toInt + 60 ∧ u.1 = s.1 ∧ WPf P t 60 s u, fun _ _ _ _ b6 _ => (a1.toInt + 60 - b6.toInt).toNat, ⟨rfl, by decide, by decide, by omega, by omega, rfl, WPf_rf⟩, ?_⟩
  rintro b1 b3 b4 b5 b6 u ⟨e1, i1, i2, i3, i4, i5, i6⟩
  subst e1
  have hEu : snE u e := fun i => by rw [i6.1 e heP]; exact hE i
  have fin : v_87_91 (fun j => Zt (d + 8) (wd P j) j) P e b1 b3 b4 b5 b6 u (fun v s' => WPf P t 60 s s' ∧ (∀ b q, ¬ (b = 75 ∧ q = 3) → s'.1 b q = s.1 b q) ∧ (t ≤ (s'.1 75 3).toInt ∧ (s'.1 75 3).toInt ≤ t + 60) ∧ ∃ r : Int32, v = some (.int r) ∧ (r.toInt = -1 ∨ r = b1 ∨ r.toInt = t) ∧ ((s'.1 75 3).toInt = t ∨ r.toInt = t)) := by
    unfold v_87_91
    refine ⟨fun _ x1 hx1 s2 hs2 x3 hx3 => ?_, fun _ => ⟨i6, fun b q _ => by rw [i5], by rw [i5]; omega, b1, rfl, Or.inr (Or.inl rfl), Or.inl (by rw [i5]; exact ht)⟩⟩
    rw [i5] at hx1
    have ex1 := hx1 (by omega)
    have et : s2.1 75 3 = x1 := by rw [hs2, zf_1, if_pos ⟨rfl, rfl⟩]
    rw [et] at hx3
    have ex3 := hx3 (by omega)
    exact ⟨by unfold WPf; rw [hs2, zf_2]; exact i6, fun b q hb => by rw [hs2, zf_1, if_neg hb, i5], by rw [et]; omega, x3, rfl, Or.inr (Or.inr (by omega)), Or.inr (by omega)⟩
  have go : ∀ (q7 q8 fr to : Int32), ¬ b1.toInt + 60 ≤ b6.toInt → (-1000 ≤ fr.toInt ∧ fr.toInt ≤ 2000100000) → (-1000 ≤ to.toInt ∧ to.toInt ≤ 2000100000) → v_87_43 (fun j => Zt (d + 8) (wd P j) j) P e (fun a1' a3' a4' a5' a6' s' => (a1' = b1 ∧ 0 ≤ a3'.toInt ∧ a3'.toInt ≤ 60 ∧ b1.toInt ≤ a6'.toInt ∧ a6'.toInt ≤ b1.toInt + 60 ∧ s'.1 = s.1 ∧ WPf P t 60 s s') ∧ (b1.toInt + 60 - a6'.toInt).toNat < (b1.toInt + 60 - b6.toInt).toNat) b1 b3 b4 b5 b6 q7 q8 fr to u (fun v s' => WPf P t 60 s s' ∧ (∀ b q, ¬ (b = 75 ∧ q = 3) → s'.1 b q = s.1 b q) ∧ (t ≤ (s'.1 75 3).toInt ∧ (s'.1 75 3).toInt ≤ t + 60) ∧ ∃ r : Int32, v = some (.int r) ∧ (r.toInt = -1 ∨ r = b1 ∨ r.toInt = t) ∧ ((s'.1 75 3).toInt = t ∨ r.toInt = t)) := by
    intro q7 q8 fr to y kf kt
    unfold v_87_43
    intro x1 hx1 x2 hx2
    have ex1 := hx1 (by omega)
    have ex2 := hx2 (by omega)
    refine ⟨fun y60 => ?_, fun _ => ⟨i6, fun b q _ => by rw [i5], by rw [i5]; omega, -1, rfl, Or.inl (by decide), Or.inl (by rw [i5]; exact ht)⟩⟩
    refine ⟨fun c1 c3 c4 c5 c6 c7 c8 c9 c10 c11 w => c1 = b1 ∧ c6 = b6 ∧ c10 = to ∧ 0 ≤ c3.toInt ∧ c3.toInt ≤ 60 ∧ fr.toInt ≤ c11.toInt ∧ (c11.toInt < to.toInt → c3.toInt + (to.toInt - c11.toInt) ≤ 60) ∧ w.1 = s.1 ∧ WPf P t 60 s w, fun _ _ _ _ _ _ _ _ _ c11 _ => (to.toInt - c11.toInt).toNat, ⟨rfl, rfl, rfl, i1, i2, by omega, fun _ => by omega, i5, i6⟩, ?_⟩
    rintro c1 c3 c4 c5 c6 c7 c8 c9 c10 c11 w ⟨r1, r2, r3, m1, m2, m3, m4, m5, m6⟩
    subst r1 r2 r3
    have nxt : ∀ p0 : Int32, v_87_79 (fun j => Zt (d + 8) (wd P j) j) P e (fun a1' a3' a4' a5' a6' s' => (a1' = c1 ∧ 0 ≤ a3'.toInt ∧ a3'.toInt ≤ 60 ∧ c1.toInt ≤ a6'.toInt ∧ a6'.toInt ≤ c1.toInt + 60 ∧ s'.1 = s.1 ∧ WPf P t 60 s s') ∧ (c1.toInt + 60 - a6'.toInt).toNat < (c1.toInt + 60 - c6.toInt).toNat) c1 c3 c4 c5 c6 c7 c8 c9 c10 c11 p0 w (fun v s' => WPf P t 60 s s' ∧ (∀ b q, ¬ (b = 75 ∧ q = 3) → s'.1 b q = s.1 b q) ∧ (t ≤ (s'.1 75 3).toInt ∧ (s'.1 75 3).toInt ≤ t + 60) ∧ ∃ r : Int32, v = some (.int r) ∧ (r.toInt = -1 ∨ r = c1 ∨ r.toInt = t) ∧ ((s'.1 75 3).toInt = t ∨ r.toInt = t)) := fun p0 => by
      unfold v_87_79
      intro y1 _ y2 _ y3 hy3
      have := hy3 (by omega)
      exact ⟨⟨rfl, m1, m2, by omega, by omega, m5, m6⟩, by omega⟩
    unfold v_87_55 v_87_78
    refine ⟨fun _ => ⟨fun _ => nxt 0, fun _ => ⟨fun _ => nxt 0, fun _ => nxt 1⟩⟩, fun hy x5 hx5 => ?_⟩
    have m4' := m4 (by omega)
    rw [m5] at hx5
    have ex5 := hx5 (by omega)
    refine ⟨Or.inr (by omega), fun s6 hs6 x7 hx7 x8 hx8 => ?_⟩
    have ex7 := hx7 (by omega)
    have ex8 := hx8 (by omega)
    exact ⟨⟨rfl, rfl, rfl, by omega, by omega, by omega, fun _ => by omega, by rw [hs6, zt_1]; exact m5, WPf_t m6 hs6 (by omega) (by omega)⟩, by dsimp only; omega⟩
  unfold v_87_8
  intro x1 hx1
  have ex1 := hx1 (by omega)
  refine ⟨fun _ => fin, fun y => ⟨fun _ => fin, fun _ x2 _ => ⟨fun _ => ?_, fun _ => ?_⟩⟩⟩
  · unfold v_87_31
    exact ⟨fun _ x3 _ => go _ _ _ _ (by omega) (snE_g hEu _) (snE_g hEu _), fun _ x3 hx3 => by
      have := hx3 (by omega)
      exact go _ _ _ _ (by omega) (snE_g hEu _) (by omega)⟩
  · unfold v_87_31
    exact ⟨fun _ x3 _ => go _ _ _ _ (by omega) (by omega) (snE_g hEu _), fun _ x3 hx3 => by
      have := hx3 (by omega)
      exact go _ _ _ _ (by omega) (by omega) (by omega)⟩
theorem zw_89w (hP : P = 3 ∨ P = 39) (ht : (s.1 75 3).toInt = t) (ht2 : 18 ≤ t ∧ t ≤ 900000000) (hE : snE s 80) (hF : snE s 78) : Zt (d + 18) (wd P 89) 89 [.ref 75, .int a1, .int a2] s (fun v s' => s'.1 = s.1 ∧ WPf P t 120 s s' ∧ ∃ r : Int32, v = some (.int r)) := by
  have h80 : ¬ 80 = P + 18 ∧ ¬ 78 = P + 18 ∧ ¬ P + 30 = P + 18 := by omega
  refine Zt_bd (fun hB => zc_89 (d := d + 9) hP ?_)
  obtain ⟨-, hb8, hb0⟩ := bd_rw hP hB
  unfold v_89_0
  refine ⟨fun _ => ?_, fun _ => ⟨rfl, WPf_rf, 7, rfl⟩⟩
  have k3 := hb8 (a1 * 5 + 3)
  have k4 := hb8 (a1 * 5 + 4)
  refine ⟨fun _ _ c3 c4 _ _ c7 u => c3 = zg s (P + 28) (a1 * 5 + 3) ∧ c4 = zg s (P + 28) (a1 * 5 + 4) ∧ 0 ≤ c7.toInt ∧ c7.toInt ≤ 10001 ∧ u.1 = s.1 ∧ WPf P t 120 s u, fun _ _ _ _ _ _ c7 _ => (10001 - c7.toInt).toNat, ⟨rfl, rfl, by decide, by decide, rfl, WPf_rf⟩, ?_⟩
  rintro c1 c2 c3 c4 c5 c6 c7 u ⟨e3, e4, i1, i2, i3, i4⟩
  rw [← e3] at k3
  rw [← e4] at k4
  have snS : ∀ (w : zS) (x : Int32), WPf P t 120 s w → sn (zg w (P + 30) x) := fun w x hw => by
    have e : zg w (P + 30) x = zg s (P + 30) x := by
      unfold zg
      rw [hw.1 _ h80.2.2]
    rw [e]
    have := hb0 x
    exact ⟨by omega, this.2⟩
  unfold v_89_35
  intro x1 hx1
  have ex1 := hx1 (by omega)
  have main : ¬ x1.toInt < c7.toInt → v_89_52 (fun j => Zt (d + 9 + 8) (wd P j) j) P (fun a1' a2' a3' a4' a5' a6' a7' s' => (a3' = zg s (P + 28) (a1 * 5 + 3) ∧ a4' = zg s (P + 28) (a1 * 5 + 4) ∧ 0 ≤ a7'.toInt ∧ a7'.toInt ≤ 10001 ∧ s'.1 = s.1 ∧ WPf P t 120 s s') ∧ (10001 - a7'.toInt).toNat < (10001 - c7.toInt).toNat) c1 c2 c3 c4 c5 c6 c7 u (fun v s' => s'.1 = s.1 ∧ WPf P t 120 s s' ∧ ∃ r : Int32, v = some (.int r)) := by
    intro y
    have fin : ∀ (t0 c9 : Int32) (w : zS), WPf P t 120 s w → (∀ b q, ¬ (b = 75 ∧ q = 3) → w.1 b q = s.1 b q) → v_89_82 (fun j => Zt (d + 9 + 8) (wd P j) j) P (fun a1' a2' a3' a4' a5' a6' a7' s' => (a3' = zg s (P + 28) (a1 * 5 + 3) ∧ a4' = zg s (P + 28) (a1 * 5 + 4) ∧ 0 ≤ a7'.toInt ∧ a7'.toInt ≤ 10001 ∧ s'.1 = s.1 ∧ WPf P t 120 s s') ∧ (10001 - a7'.toInt).toNat < (10001 - c7.toInt).toNat) c1 c2 c3 c4 c5 c6 c7 (u.1 75 3) c9 t0 w (fun v s' => s'.1 = s.1 ∧ WPf P t 120 s s' ∧ ∃ r : Int32, v = some (.int r)) := by
      intro t0 c9 w w1 w2
      unfold v_89_82
      intro s1 hs1
      have f1 : s1.1 = s.1 := by
        funext b q
        rw [hs1, zf_1]
        by_cases e : b = 75 ∧ q = 3
        · rw [if_pos e, i3, e.1, e.2]
        · rw [if_neg e, w2 b q e]
      have r1 : WPf P t 120 s s1 := by unfold WPf; rw [hs1, zf_2]; exact w1
      refine ⟨fun _ => ?_, fun _ => ⟨f1, r1, 9, rfl⟩⟩
      refine Zt.imp (Zt.mo (d := 9) (by omega) (zw_84 (d := 0) hP)) ?_
      rintro v2 s3 ⟨hs3, x4, rfl⟩
      subst hs3
      refine ⟨x4, rfl, fun _ x5 hx5 => ?_, fun _ => ⟨f1, r1, 7, rfl⟩⟩
      have := hx5 (by omega)
      exact ⟨⟨e3, e4, by omega, by omega, f1, r1⟩, by omega⟩
    unfold v_89_52
    intro y1 _
    refine Zt.imp (Zt.mo (d := 9) (by omega) (zw_87w (d := 0) (t := t) hP (by decide) (snS u _ i4) (by rw [i3]; exact ht) (by omega) (fun i => by rw [i4.1 80 h80.1]; exact hE i))) ?_
    rintro v3 s4 ⟨p1, p2, p3, x5, rfl, -⟩
    have q4 : WPf P t 120 s s4 := WPf_tr i4 p1 (by omega) (by omega)
    have f4 : ∀ b q, ¬ (b = 75 ∧ q = 3) → s4.1 b q = s.1 b q := fun b q hb => by rw [p2 b q hb, i3]
    refine ⟨x5, rfl, fun _ y6 _ => ?_, fun _ => fin _ _ s4 q4 f4⟩
    obtain ⟨t4, ht4⟩ : ∃ t4, (s4.1 75 3).toInt = t4 := ⟨_, rfl⟩
    rw [ht4] at p3
    refine Zt.imp (Zt.mo (d := 9) (by omega) (zw_87w (d := 0) (t := t4) hP (by decide) (snS s4 _ q4) ht4 (by omega) (fun i => by rw [q4.1 78 h80.2.1]; exact hF i))) ?_
    rintro v8 s9 ⟨m1, m2, -, x10, rfl, -⟩
    exact ⟨x10, rfl, fin _ _ s9 (WPf_tr q4 m1 (by omega) (by omega)) (fun b q hb => by rw [m2 b q hb, f4 b q hb])⟩
  exact ⟨fun _ => ⟨i3, i4, 0, rfl⟩, fun y => ⟨fun _ => main y, fun _ => ⟨fun _ => main y, fun _ => ⟨i3, i4, 7, rfl⟩⟩⟩⟩
theorem zw_88w (hP : P = 3 ∨ P = 39) (h1 : sn a1) (h2 : sn a2) (ht : (s.1 75 3).toInt = t) (ht2 : 18 ≤ t ∧ t ≤ 900000000) (hE : snE s 80) (hF : snE s 78) : Zt (d + 27) (wd P 88) 88 [.ref 75, .int a1, .int a2] s (fun v s' => s'.1 = s.1 ∧ (∀ r, ¬ r = P + 18 → ¬ r = 78 → ¬ r = 80 → s'.2 r = s.2 r) ∧ (snE s' 78 ∧ snE s' 80) ∧ (∀ j : Nat, ((j : Int) < t ∨ t + 120 ≤ (j : Int)) → s'.2 (P + 18) j = s.2 (P + 18) j) ∧ ∃ r : Int32, v = some (.int r)) := by
  have hne : ¬ 80 = P + 18 ∧ ¬ 78 = P + 18 ∧ ¬ P + 24 = P + 18 ∧ ¬ P + 24 = 78 ∧ ¬ P + 24 = 80 ∧ ¬ P + 18 = 78 ∧ ¬ P + 18 = 80 := by omega
  refine Zt_bd (fun hB => zc_88 (d := d + 18) hP ?_)
  obtain ⟨hb4, -, -⟩ := bd_rw hP hB
  unfold v_88_0
  refine ⟨fun _ => ?_, fun _ => ?_⟩
  · refine Zt.imp (Zt.mo (d := 9) (by omega) (zw_90 (d := 0) hP h1)) ?_
    rintro v1 s2 ⟨hs2, x3, rfl, hx3⟩
    subst hs2
    refine ⟨x3, rfl, ?_⟩
    refine Zt.imp (Zt.mo (d := 18) (by omega) (zw_86 (d := 0) (e := 78) hP (by decide) hx3 ⟨by decide, by decide⟩ hF)) ?_
    rintro v4 s5 ⟨rfl, f1, f2, f3⟩
    refine ⟨rfl, ?_⟩
    refine Zt.imp (Zt.mo (d := 18) (by omega) (zw_86 (d := 0) (e := 80) hP (by decide) h2 ⟨by decide, by decide⟩ (fun i => by rw [f2 80 (by decide)]; exact hE i))) ?_
    rintro v6 s7 ⟨rfl, g1, g2, g3⟩
    refine ⟨rfl, ?_⟩
    have F7 : snE s7 78 := fun i => by rw [g2 78 (by decide)]; exact f3 i
    have r7 : ∀ r, ¬ r = 78 → ¬ r = 80 → s7.2 r = s2.2 r := fun r q1 q2 => by rw [g2 r q2, f2 r q1]
    have c7 : s7.1 = s2.1 := g1.trans f1
    have b4 : ∀ (w : zS) (x : Int32), WPf P t 120 s7 w → (zg w (P + 24) x).toInt ≤ 5000 := fun w x hw => by
      have e : zg w (P + 24) x = zg s2 (P + 24) x := by
        unfold zg
        rw [hw.1 _ hne.2.2.1, r7 _ hne.2.2.2.1 hne.2.2.2.2.1]
      rw [e]
      exact (hb4 x).2
    refine ⟨fun _ _ c3 _ _ c6 u => c3 = zg s2 (P + 18) a2 ∧ 0 ≤ c6.toInt ∧ c6.toInt ≤ 5001 ∧ u.1 = s2.1 ∧ WPf P t 120 s7 u, fun _ _ _ _ _ c6 _ => (5001 - c6.toInt).toNat, ⟨rfl, by decide, by decide, c7, WPf_rf⟩, ?_⟩
    rintro c1 c2 c3 c4 c5 c6 u ⟨e3, i1, i2, i3, i4⟩
    have hc6 := b4 u (c3 * 6 + 4) i4
    have Eu : snE u 80 := fun i => by rw [i4.1 80 hne.1]; exact g3 i
    have Fu : snE u 78 := fun i => by rw [i4.1 78 hne.2.1]; exact F7 i
    have post : ∀ (w : zS) (r : Int32), w.1 = s2.1 → WPf P t 120 s7 w → (fun (v : Option Value) (s' : zS) => s'.1 = s2.1 ∧ (∀ r, ¬ r = P + 18 → ¬ r = 78 → ¬ r = 80 → s'.2 r = s2.2 r) ∧ (snE s' 78 ∧ snE s' 80) ∧ (∀ j : Nat, ((j : Int) < t ∨ t + 120 ≤ (j : Int)) → s'.2 (P + 18) j = s2.2 (P + 18) j) ∧ ∃ r : Int32, v = some (.int r)) (some (.int r)) w := fun w r q1 q2 => ⟨q1, fun r k1 k2 k3 => by rw [q2.1 r k1, r7 r k2 k3], ⟨fun i => by rw [q2.1 78 hne.2.1]; exact F7 i, fun i => by rw [q2.1 80 hne.1]; exact g3 i⟩, fun j hj => by rw [q2.2 j hj, r7 _ hne.2.2.2.2.2.1 hne.2.2.2.2.2.2], r, rfl⟩
    unfold v_88_45
    refine ⟨fun _ => post u 0 i3 i4, fun y x2 _ => ?_⟩
    refine Zt.imp (Zt.mo (d := 18) (by omega) (zw_52 (d := 0) hP)) ?_
    rintro v4 s5' ⟨hs5, x6, rfl⟩
    subst hs5
    have nx : ∀ (x6' t0 : Int32) (w : zS), w.1 = s2.1 → WPf P t 120 s7 w → v_88_77 (fun j => Zt (d + 18 + 8) (wd P j) j) P (fun a1' a2' a3' a4' a5' a6' s' => (a3' = zg s2 (P + 18) a2 ∧ 0 ≤ a6'.toInt ∧ a6'.toInt ≤ 5001 ∧ s'.1 = s2.1 ∧ WPf P t 120 s7 s') ∧ (5001 - a6'.toInt).toNat < (5001 - c6.toInt).toNat) c1 c2 c3 c4 c5 c6 x6' t0 w (fun v s' => s'.1 = s2.1 ∧ (∀ r, ¬ r = P + 18 → ¬ r = 78 → ¬ r = 80 → s'.2 r = s2.2 r) ∧ (snE s' 78 ∧ snE s' 80) ∧ (∀ j : Nat, ((j : Int) < t ∨ t + 120 ≤ (j : Int)) → s'.2 (P + 18) j = s2.2 (P + 18) j) ∧ ∃ r : Int32, v = some (.int r)) := fun x6' t0 w q1 q2 => by
      unfold v_88_77
      refine ⟨fun _ x1 hx1 => ?_, fun _ => post w t0 q1 q2⟩
      have := hx1 (by omega)
      exact ⟨⟨e3, by omega, by omega, q1, q2⟩, by omega⟩
    refine ⟨x6, rfl, fun _ x7 _ => ?_, fun _ => nx _ _ _ i3 i4⟩
    refine Zt.imp (Zt.mo (d := 18) (by omega) (zw_89w (d := 0) (t := t) hP (by rw [i3]; exact ht) ht2 Eu Fu)) ?_
    rintro v8 s9 ⟨k1, k2, x10, rfl⟩
    exact ⟨x10, rfl, nx _ _ s9 (k1.trans i3) (WPf_tr i4 k2 (by omega) (by omega))⟩
  · refine Zt.imp (Zt.mo (d := 9) (by omega) (zw_84 (d := 0) hP)) ?_
    rintro v9 s10 ⟨hs10, x11, rfl⟩
    subst hs10
    unfold v_88_18
    exact ⟨x11, rfl, fun _ => ⟨rfl, fun _ _ _ _ => rfl, ⟨hF, hE⟩, fun _ _ => rfl, 7, rfl⟩, fun _ => ⟨rfl, fun _ _ _ _ => rfl, ⟨hF, hE⟩, fun _ _ => rfl, 0, rfl⟩⟩
end ZZZEA
