/-! ===== the class: what shapes do to any state that is sane ===== -/
/-- where a TYPE may be said to stand -/
def sn (x : Int32) : Prop := -1000 ≤ x.toInt ∧ x.toInt ≤ 2000000000
/-- a Row that tells what stands for PARAMS -/
def snE (s : zS) (e : Nat) : Prop := ∀ i, -1000 ≤ (s.2 e i).toInt ∧ (s.2 e i).toInt ≤ 2000100000
/-- all such Rows are sane -/
def SNz (s : zS) : Prop := ∀ a, skB a = true → ∀ i, -1000 ≤ (s.2 a i).toInt ∧ (s.2 a i).toInt ≤ skM a
theorem sk_lt {a : Nat} (ha : skB a = true) : a < 205 := by
  unfold skB at ha
  rw [Bool.or_eq_true] at ha
  rcases ha with q | q
  · have := ev_lt q
    omega
  · have := cmem_ok q
    simp only [List.mem_cons, List.not_mem_nil, or_false] at this
    omega
theorem sk_al : ∀ a, a < 205 → skB a = true → cmem a rowL = true := by decide +kernel
theorem sk_row {a : Nat} (ha : skB a = true) : a ∈ rowL := cmem_ok (sk_al a (sk_lt ha) ha)
theorem SNz_h {h h' : xH} {s s' : zS} (hk : SKh h h') (hz : zI h s) (hz' : zI h' s') (hS : SNz s) : SNz s' := fun a ha i => by
  have hr := sk_row ha
  rw [← hz'.2 a hr i]
  rcases hk a hr ha i with e | e
  · rw [e, hz.2 a hr i]
    exact hS a ha i
  · exact e
/-- whatever is called: they stay sane -/
theorem Zt.sn {d : Nat} {c : zW} {j : Nat} {vs : List Value} {s : zS} {Q : Option Value → zS → Prop} (h : Zt d c j vs s Q) (hS : SNz s) : Zt d c j vs s (fun v s' => Q v s' ∧ SNz s') := fun hh hI hq => by
  obtain ⟨v, h', cs, sl, s', p1, p2, p3, p4⟩ := h hh hI hq
  exact ⟨v, h', cs, sl, s', ⟨p1, SNz_h p3.1.2.2.2.2.2.1 hq.1 p2 hS⟩, p2, p3, p4⟩
theorem Zt.sb {d : Nat} {c : zW} {j : Nat} {vs : List Value} {s : zS} {Q : Option Value → zS → Prop} (h : Zt d c j vs s Q) (hS : SNz s) : Zt d c j vs s (fun v s' => Q v s' ∧ SNz s' ∧ BDz s') := fun hh hI hq => by
  obtain ⟨v, h', cs, sl, s', p1, p2, p3, p4⟩ := h hh hI hq
  exact ⟨v, h', cs, sl, s', ⟨p1, SNz_h p3.1.2.2.2.2.2.1 hq.1 p2 hS, BD_of p3.1.1 p2⟩, p2, p3, p4⟩
theorem Zu.sb {d : Nat} {U : List (Nat × Nat)} {c c' : zW} {j : Nat} {vs : List Value} {s : zS} {Q : Option Value → zS → Prop} (h : Zu d U c c' j vs s Q) (hS : SNz s) : Zu d U c c' j vs s (fun v s' => Q v s' ∧ SNz s' ∧ BDz s') := fun hh hI hq => by
  obtain ⟨v, h', cs, sl, s', p1, p2, p3, p4⟩ := h hh hI hq
  exact ⟨v, h', cs, sl, s', ⟨p1, SNz_h p3.1.2.2.2.2.2.1 hq.1 p2.1 hS, BD_of p3.1.1 p2.1⟩, p2, p3, p4⟩
theorem Zu.sn {d : Nat} {U : List (Nat × Nat)} {c c' : zW} {j : Nat} {vs : List Value} {s : zS} {Q : Option Value → zS → Prop} (h : Zu d U c c' j vs s Q) (hS : SNz s) : Zu d U c c' j vs s (fun v s' => Q v s' ∧ SNz s') := fun hh hI hq => by
  obtain ⟨v, h', cs, sl, s', p1, p2, p3, p4⟩ := h hh hI hq
  exact ⟨v, h', cs, sl, s', ⟨p1, SNz_h p3.1.2.2.2.2.2.1 hq.1 p2.1 hS⟩, p2, p3, p4⟩
section ZZZC
variable {d P e : Nat} {s s' u : zS} {a1 a2 a3 a4 x v : Int32}
theorem zt_e {r j : Nat} : (zt s e x v).2 r j = if r = e ∧ (0 ≤ x.toInt ∧ x.toInt < (lim e : Int)) ∧ j = x.toInt.toNat then v else s.2 r j := by
  unfold zt
  by_cases hx : 0 ≤ x.toInt ∧ x.toInt < (lim e : Int)
  · rw [if_pos hx]
    show (if r = e then upd (s.2 e) x.toInt.toNat v else s.2 r) j = _
    by_cases er : r = e
    · rw [if_pos er, er]
      unfold upd
      by_cases ej : j = x.toInt.toNat
      · rw [if_pos ej, if_pos ⟨rfl, hx, ej⟩]
      · rw [if_neg ej, if_neg (fun w => ej w.2.2)]
    · rw [if_neg er, if_neg (fun w => er w.1)]
  · rw [if_neg hx, if_neg (fun w => hx w.2.1)]
theorem snE_t (h : snE s e) (hv : -1000 ≤ v.toInt ∧ v.toInt ≤ 2000100000) : snE (zt s e x v) e := fun i => by
  rw [zt_e]
  split
  · exact hv
  · exact h i
theorem zt_o {r : Nat} (hr : ¬ r = e) : (zt s e x v).2 r = s.2 r := funext fun j => by
  rw [zt_e, if_neg (fun w => hr w.1)]
theorem snE_g (h : snE s e) (x : Int32) : -1000 ≤ (zg s e x).toInt ∧ (zg s e x).toInt ≤ 2000100000 := by
  unfold zg
  split
  · exact h _
  · decide
theorem zw_83 (hP : P = 3 ∨ P = 39) (h1 : a1.toInt ≤ 2000200000) : Zt (d + 9) (wd P 83) 83 [.ref 75, .int a1] s (fun v s' => s' = s ∧ ∃ r : Int32, v = some (.int r) ∧ a1.toInt + 1 ≤ r.toInt ∧ r.toInt ≤ a1.toInt + 4000) := by
  refine zc_83 hP ?_
  unfold v_83_0
  have z0 : (0 : Int32).toInt = 0 := by decide
  refine ⟨fun _ c2 c3 c4 u => u = s ∧ 0 ≤ c4.toInt ∧ c2.toInt = a1.toInt + c4.toInt ∧ c4.toInt ≤ 4000 ∧ (c4.toInt = 0 → c3.toInt = 1), fun _ _ _ c4 _ => (4000 - c4.toInt).toNat, ⟨rfl, by decide, by omega, by decide, fun _ => by decide⟩, ?_⟩
  rintro c1 c2 c3 c4 u ⟨e1, e2, e3, e4, e5⟩
  subst e1
  unfold v_83_6 v_83_26
  refine ⟨fun _ => ⟨rfl, c2, rfl, by omega, by omega⟩, fun y => ⟨fun z => ⟨rfl, c2, rfl, by
    have : ¬ c4.toInt = 0 := fun w => by
      have := e5 w
      omega
    omega, by omega⟩, fun y1 x1 hx1 x2 hx2 x3 hx3 x4 hx4 => ?_⟩⟩
  have h4 := hx4 (by omega)
  have h3 := hx3 (by have := a1.le_toInt; omega)
  exact ⟨⟨rfl, by omega, by omega, by omega, fun w => absurd w (by omega)⟩, by dsimp only; omega⟩
theorem zw_84 (hP : P = 3 ∨ P = 39) : Zt (d + 9) (wd P 84) 84 [.ref 75, .int a1, .int a2] s (fun v s' => s' = s ∧ ∃ r : Int32, v = some (.int r)) := by
  refine zc_84 hP ?_
  unfold v_84_0
  refine ⟨fun _ _ _ c4 u => u = s ∧ 0 ≤ c4.toInt, fun _ _ _ c4 _ => (60 - c4.toInt).toNat, ⟨rfl, by decide⟩, ?_⟩
  rintro c1 c2 c3 c4 u ⟨e1, e2⟩
  subst e1
  unfold v_84_4 v_84_37
  refine ⟨fun _ => ⟨rfl, 1, rfl⟩, fun y => ⟨fun _ => ⟨rfl, 1, rfl⟩, fun _ x1 _ x2 _ => ⟨fun _ x3 _ x4 _ x5 hx5 => ?_, fun _ => ⟨rfl, 0, rfl⟩⟩⟩⟩
  have := hx5 (by omega)
  exact ⟨⟨rfl, by omega⟩, by dsimp only; omega⟩
/-- fill -/
theorem zw_86 (hP : P = 3 ∨ P = 39) (he : skE e = true) (h2 : sn a2) (h3 : sn a3) (hE : snE s e) : Zt (d + 18) (wd P 86) 86 [.ref 75, .ref e, .int a2, .int a3, .int a4] s (fun v s' => v = none ∧ s'.1 = s.1 ∧ (∀ r, ¬ r = e → s'.2 r = s.2 r) ∧ snE s' e) := by
  obtain ⟨h21, h22⟩ := h2
  obtain ⟨h31, h32⟩ := h3
  have z0 : (0 : Int32).toInt = 0 := by decide
  refine zc_86 (d := d + 9) hP he ?_
  unfold v_86_0
  intro x1 hx1
  have ex1 := hx1 (by omega)
  refine ⟨fun b2 b3 _ _ b6 b7 u => b2 = a2 ∧ b3 = a3 ∧ 0 ≤ b7.toInt ∧ b7.toInt ≤ 12 ∧ -1000 ≤ b6.toInt ∧ b6.toInt ≤ 2000000001 + 4000 * b7.toInt ∧ u.1 = s.1 ∧ (∀ r, ¬ r = e → u.2 r = s.2 r) ∧ snE u e, fun _ _ _ _ _ b7 _ => (12 - b7.toInt).toNat, ⟨rfl, rfl, by decide, by decide, by omega, by omega, rfl, fun _ _ => rfl, hE⟩, ?_⟩
  rintro b2 b3 b4 b5 b6 b7 u ⟨e2, e3, i1, i2, i3, i4, i5, i6, i7⟩
  subst e2 e3
  have go : ∀ (c5 c6 t0 : Int32), ¬ 12 ≤ b7.toInt → -1000 ≤ c6.toInt → c6.toInt ≤ 2000000001 + 4000 * b7.toInt → -1000 ≤ t0.toInt → t0.toInt ≤ 2000000001 + 4000 * b7.toInt → v_86_32 (fun j => Zt (d + 9 + 8) (wd P j) j) P e (fun a2' a3' a4' a5' a6' a7' s' => (a2' = b2 ∧ a3' = b3 ∧ 0 ≤ a7'.toInt ∧ a7'.toInt ≤ 12 ∧ -1000 ≤ a6'.toInt ∧ a6'.toInt ≤ 2000000001 + 4000 * a7'.toInt ∧ s'.1 = s.1 ∧ (∀ r, ¬ r = e → s'.2 r = s.2 r) ∧ snE s' e) ∧ (12 - a7'.toInt).toNat < (12 - b7.toInt).toNat) b2 b3 b4 c5 c6 b7 t0 u (fun v s' => v = none ∧ s'.1 = s.1 ∧ (∀ r, ¬ r = e → s'.2 r = s.2 r) ∧ snE s' e) := by
    intro c5 c6 t0 y k1 k2 k3 k4
    unfold v_86_32
    refine Zt.imp (Zt.mo (d := 9) (by omega) (zw_83 (d := 0) hP (by omega))) ?_
    rintro v1 s2 ⟨hs2, x3, rfl, q1, q2⟩
    subst hs2
    refine ⟨x3, rfl, by omega, fun s4 hs4 x5 hx5 => ⟨by omega, fun s6 hs6 => ?_⟩⟩
    have E4 : snE s4 e := by rw [hs4]; exact snE_t i7 (by omega)
    have E6 : snE s6 e := by rw [hs6]; exact snE_t E4 (by omega)
    have r6 : ∀ r, ¬ r = e → s6.2 r = s.2 r := fun r hr => by rw [hs6, zt_o hr, hs4, zt_o hr, i6 r hr]
    have f6 : s6.1 = s.1 := by rw [hs6, zt_1, hs4, zt_1, i5]
    unfold v_86_53
    refine ⟨fun _ x1' hx1' => ?_, fun _ x1' hx1' => ?_⟩
    · have := hx1' (by omega)
      exact ⟨⟨rfl, rfl, by omega, by omega, by omega, by omega, f6, r6, E6⟩, by omega⟩
    · have := hx1' (by omega)
      exact ⟨⟨rfl, rfl, by omega, by omega, by omega, by omega, f6, r6, E6⟩, by omega⟩
  unfold v_86_14 v_86_26
  refine ⟨fun _ => ⟨rfl, i5, i6, i7⟩, fun y => ⟨fun _ => ⟨fun _ => go _ _ _ y i3 i4 (by omega) (by omega), fun _ => go _ _ _ y i3 i4 i3 i4⟩, fun _ x2 _ => ⟨fun _ => go _ _ _ y (by omega) (by omega) (by omega) (by omega), fun _ => go _ _ _ y (by omega) (by omega) (by omega) (by omega)⟩⟩⟩
/-- put -/
theorem zw_87 {t : Int} (hP : P = 3 ∨ P = 39) (he : skE e = true) (h1 : sn a1) (ht : (s.1 75 3).toInt = t) (ht2 : 18 ≤ t ∧ t ≤ 1000000000) (hE : snE s e) : Zt (d + 9) (wd P 87) 87 [.ref 75, .int a1, .ref e] s (fun v s' => (∀ r, ¬ r = P + 18 → s'.2 r = s.2 r) ∧ (∀ b q, ¬ (b = 75 ∧ q = 3) → s'.1 b q = s.1 b q) ∧ (t ≤ (s'.1 75 3).toInt ∧ (s'.1 75 3).toInt ≤ t + 60) ∧ ∃ r : Int32, v = some (.int r) ∧ (r.toInt = -1 ∨ r = a1 ∨ r.toInt = t) ∧ ((s'.1 75 3).toInt = t ∨ r.toInt = t)) := by
  obtain ⟨h11, h12⟩ := h1
  have heP : ¬ e = P + 18 := (ev_P hP he).1
  have z0 : (0 : Int32).toInt = 0 := by decide
  refine zc_87 hP he ?_
  unfold v_87_0
  refine ⟨fun b1 b3 _ _ b6 u => b1 = a1 ∧ 0 ≤ b3.toInt ∧ b3.toInt ≤ 60 ∧ a1.toInt ≤ b6.toInt ∧ b6.toInt ≤ a1.toInt + 60 ∧ u.1 = s.1 ∧ ∀ r, ¬ r = P + 18 → u.2 r = s.2 r, fun _ _ _ _ b6 _ => (a1.toInt + 60 - b6.toInt).toNat, ⟨rfl, by decide, by decide, by omega, by omega, rfl, fun _ _ => rfl⟩, ?_⟩
  rintro b1 b3 b4 b5 b6 u ⟨e1, i1, i2, i3, i4, i5, i6⟩
  subst e1
  have hEu : snE u e := fun i => by rw [i6 e heP]; exact hE i
  have fin : v_87_91 (fun j => Zt (d + 8) (wd P j) j) P e b1 b3 b4 b5 b6 u (fun v s' => (∀ r, ¬ r = P + 18 → s'.2 r = s.2 r) ∧ (∀ b q, ¬ (b = 75 ∧ q = 3) → s'.1 b q = s.1 b q) ∧ (t ≤ (s'.1 75 3).toInt ∧ (s'.1 75 3).toInt ≤ t + 60) ∧ ∃ r : Int32, v = some (.int r) ∧ (r.toInt = -1 ∨ r = b1 ∨ r.toInt = t) ∧ ((s'.1 75 3).toInt = t ∨ r.toInt = t)) := by
    unfold v_87_91
    refine ⟨fun _ x1 hx1 s2 hs2 x3 hx3 => ?_, fun _ => ⟨i6, fun b q _ => by rw [i5], by rw [i5]; omega, b1, rfl, Or.inr (Or.inl rfl), Or.inl (by rw [i5]; exact ht)⟩⟩
    rw [i5] at hx1
    have ex1 := hx1 (by omega)
    have et : s2.1 75 3 = x1 := by rw [hs2, zf_1, if_pos ⟨rfl, rfl⟩]
    rw [et] at hx3
    have ex3 := hx3 (by omega)
    exact ⟨fun r hr => by rw [hs2, zf_2]; exact i6 r hr, fun b q hb => by rw [hs2, zf_1, if_neg hb, i5], by rw [et]; omega, x3, rfl, Or.inr (Or.inr (by omega)), Or.inr (by omega)⟩
  have go : ∀ (q7 q8 fr to : Int32), ¬ b1.toInt + 60 ≤ b6.toInt → (-1000 ≤ fr.toInt ∧ fr.toInt ≤ 2000100000) → (-1000 ≤ to.toInt ∧ to.toInt ≤ 2000100000) → v_87_43 (fun j => Zt (d + 8) (wd P j) j) P e (fun a1' a3' a4' a5' a6' s' => (a1' = b1 ∧ 0 ≤ a3'.toInt ∧ a3'.toInt ≤ 60 ∧ b1.toInt ≤ a6'.toInt ∧ a6'.toInt ≤ b1.toInt + 60 ∧ s'.1 = s.1 ∧ ∀ r, ¬ r = P + 18 → s'.2 r = s.2 r) ∧ (b1.toInt + 60 - a6'.toInt).toNat < (b1.toInt + 60 - b6.toInt).toNat) b1 b3 b4 b5 b6 q7 q8 fr to u (fun v s' => (∀ r, ¬ r = P + 18 → s'.2 r = s.2 r) ∧ (∀ b q, ¬ (b = 75 ∧ q = 3) → s'.1 b q = s.1 b q) ∧ (t ≤ (s'.1 75 3).toInt ∧ (s'.1 75 3).toInt ≤ t + 60) ∧ ∃ r : Int32, v = some (.int r) ∧ (r.toInt = -1 ∨ r = b1 ∨ r.toInt = t) ∧ ((s'.1 75 3).toInt = t ∨ r.toInt = t)) := by
    intro q7 q8 fr to y kf kt
    unfold v_87_43
    intro x1 hx1 x2 hx2
    have ex1 := hx1 (by omega)
    have ex2 := hx2 (by omega)
    refine ⟨fun y60 => ?_, fun _ => ⟨i6, fun b q _ => by rw [i5], by rw [i5]; omega, -1, rfl, Or.inl (by decide), Or.inl (by rw [i5]; exact ht)⟩⟩
    refine ⟨fun c1 c3 c4 c5 c6 c7 c8 c9 c10 c11 w => c1 = b1 ∧ c6 = b6 ∧ c10 = to ∧ 0 ≤ c3.toInt ∧ c3.toInt ≤ 60 ∧ fr.toInt ≤ c11.toInt ∧ (c11.toInt < to.toInt → c3.toInt + (to.toInt - c11.toInt) ≤ 60) ∧ w.1 = s.1 ∧ ∀ r, ¬ r = P + 18 → w.2 r = s.2 r, fun _ _ _ _ _ _ _ _ _ c11 _ => (to.toInt - c11.toInt).toNat, ⟨rfl, rfl, rfl, i1, i2, by omega, fun _ => by omega, i5, i6⟩, ?_⟩
    rintro c1 c3 c4 c5 c6 c7 c8 c9 c10 c11 w ⟨r1, r2, r3, m1, m2, m3, m4, m5, m6⟩
    subst r1 r2 r3
    have nxt : ∀ p0 : Int32, v_87_79 (fun j => Zt (d + 8) (wd P j) j) P e (fun a1' a3' a4' a5' a6' s' => (a1' = c1 ∧ 0 ≤ a3'.toInt ∧ a3'.toInt ≤ 60 ∧ c1.toInt ≤ a6'.toInt ∧ a6'.toInt ≤ c1.toInt + 60 ∧ s'.1 = s.1 ∧ ∀ r, ¬ r = P + 18 → s'.2 r = s.2 r) ∧ (c1.toInt + 60 - a6'.toInt).toNat < (c1.toInt + 60 - c6.toInt).toNat) c1 c3 c4 c5 c6 c7 c8 c9 c10 c11 p0 w (fun v s' => (∀ r, ¬ r = P + 18 → s'.2 r = s.2 r) ∧ (∀ b q, ¬ (b = 75 ∧ q = 3) → s'.1 b q = s.1 b q) ∧ (t ≤ (s'.1 75 3).toInt ∧ (s'.1 75 3).toInt ≤ t + 60) ∧ ∃ r : Int32, v = some (.int r) ∧ (r.toInt = -1 ∨ r = c1 ∨ r.toInt = t) ∧ ((s'.1 75 3).toInt = t ∨ r.toInt = t)) := fun p0 => by
      unfold v_87_79
      intro y1 _ y2 _ y3 hy3
      have := hy3 (by omega)
      exact ⟨⟨rfl, m1, m2, by omega, by omega, m5, m6⟩, by omega⟩
    unfold v_87_55 v_87_78
    refine ⟨fun _ => ⟨fun _ => nxt 0, fun _ => ⟨fun _ => nxt 0, fun _ => nxt 1⟩⟩, fun hy x5 hx5 => ?_⟩
    have m4' := m4 (by omega)
    rw [m5] at hx5
    have ex5 := hx5 (by omega)
    refine ⟨Or.inr (by omega), fun s6 hs6 x7 hx7 x8 hx8 => ?_⟩
    have ex7 := hx7 (by omega)
    have ex8 := hx8 (by omega)
    exact ⟨⟨rfl, rfl, rfl, by omega, by omega, by omega, fun _ => by omega, by rw [hs6, zt_1]; exact m5, fun r hr => by rw [hs6, zt_o hr]; exact m6 r hr⟩, by dsimp only; omega⟩
  unfold v_87_8
  intro x1 hx1
  have ex1 := hx1 (by omega)
  refine ⟨fun _ => fin, fun y => ⟨fun _ => fin, fun _ x2 _ => ⟨fun _ => ?_, fun _ => ?_⟩⟩⟩
  · unfold v_87_31
    exact ⟨fun _ x3 _ => go _ _ _ _ (by omega) (snE_g hEu _) (snE_g hEu _), fun _ x3 hx3 => by
      have := hx3 (by omega)
      exact go _ _ _ _ (by omega) (snE_g hEu _) (by omega)⟩
  · unfold v_87_31
    exact ⟨fun _ x3 _ => go _ _ _ _ (by omega) (by omega) (snE_g hEu _), fun _ x3 hx3 => by
      have := hx3 (by omega)
      exact go _ _ _ _ (by omega) (by omega) (by omega)⟩
/-- bind -/
theorem zw_85 (hP : P = 3 ∨ P = 39) (he : skE e = true) (h3 : sn a3) : Zt (d + 18) (wd P 85) 85 [.ref 75, .ref e, .int a2, .int a3] s (fun v s' => v = none ∧ s'.1 = s.1 ∧ ∀ r, ¬ r = e → s'.2 r = s.2 r) := by
  obtain ⟨h31, h32⟩ := h3
  refine zc_85 (d := d + 9) hP he ?_
  unfold v_85_0
  refine ⟨by omega, fun s1 hs1 x2 _ => ?_⟩
  refine Zt.imp (Zt.mo (d := 9) (by omega) (zw_83 (d := 0) hP (by omega))) ?_
  rintro v3 s4 ⟨hs4, x5, rfl, q1, q2⟩
  subst hs4
  refine ⟨x5, rfl, by omega, fun s6 hs6 => ⟨rfl, ?_, fun r hr => ?_⟩⟩
  · rw [hs6, zt_1, hs1, zt_1]
  · rw [hs6, zt_o hr, hs1, zt_o hr]
theorem SN_E (h : SNz s) (he : skE e = true) : snE s e := fun i => by
  have := h e (by unfold skB; rw [he]; rfl) i
  rw [ev_m he] at this
  exact this
theorem SN_t (h : SNz s) (he : skB e = true) (hm : skM e = 1000000000) (i : Nat) : sn (s.2 e i) := by
  have := h e he i
  rw [hm] at this
  exact ⟨this.1, by omega⟩
theorem SN_g (h : SNz s) (he : skB e = true) (x : Int32) : -1000 ≤ (zg s e x).toInt ∧ (zg s e x).toInt ≤ skM e := by
  unfold zg
  split
  · exact h e he _
  · have := h e he 0
    unfold skM
    cases cod e <;> cases skE e <;> decide
end ZZZC
