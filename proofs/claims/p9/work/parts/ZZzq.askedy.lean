/-! ===== the class: lookAtBounds, read, implementing, isMade in any sane state ===== -/
section ZZZQ
variable {d P : Nat} {s u : zS} {a1 a2 a3 : Int32}
theorem zw_38w (hP : P = 3 ∨ P = 39) : Zt (d + 9) (wd P 38) 38 [.ref P, .int a1, .int a2] s (fun v s' => v = none ∧ ∀ b q, ¬ (b = P ∧ q = 14) → s'.1 b q = s.1 b q) := by
  refine zc_38 hP ?_
  unfold v_38_0 v_38_16
  exact ⟨fun _ => ⟨rfl, fun _ _ _ => rfl⟩, fun _ => ⟨fun _ => ⟨rfl, fun _ _ _ => rfl⟩, fun _ x1 _ x2 _ s3 hs3 => ⟨rfl, fun b q hb => by rw [hs3, zf_1, if_neg hb]⟩⟩⟩
set_option maxHeartbeats 1000000 in
/-- lookAtBounds -/
theorem zw_135A (hP : P = 3 ∨ P = 39) (h1 : -1000 ≤ a1.toInt) (h2 : a2.toInt ≤ 1999900000) (ht : (s.1 75 3).toInt = 18) (hN : SNz s) : Zt (d + 45) (wd3 P 135) 135 [.ref 83, .int a1, .int a2] s (fun v s' => v = none ∧ ∀ b q, ¬ (b = P ∧ q = 14) → s'.1 b q = s.1 b q) := by
  have hP75 : ¬ 75 = P := by omega
  refine zc_135A (d := d + 36) hP ?_
  unfold v_135A_0
  refine ⟨fun c1 c2 c3 w => c1 = a1 ∧ c2 = a2 ∧ a1.toInt ≤ c3.toInt ∧ SNz w ∧ ∀ b q, ¬ (b = P ∧ q = 14) → w.1 b q = s.1 b q, fun _ _ c3 _ => (a2.toInt - c3.toInt).toNat, ⟨rfl, rfl, Int.le_refl _, hN, fun _ _ _ => rfl⟩, ?_⟩
  rintro c1 c2 c3 w ⟨r1, r2, i1, Nw, i2⟩
  subst r1 r2
  unfold v_135A_2
  refine ⟨fun _ => ⟨rfl, i2⟩, fun y => ?_⟩
  refine ⟨fun b1 b2 b3 b4 z => b1 = c1 ∧ b2 = c2 ∧ b3 = c3 ∧ b4.toInt ≤ c3.toInt ∧ c1.toInt - 1 ≤ b4.toInt ∧ SNz z ∧ ∀ b q, ¬ (b = P ∧ q = 14) → z.1 b q = s.1 b q, fun _ _ _ b4 _ => (b4.toInt - c1.toInt + 1).toNat, ⟨rfl, rfl, rfl, Int.le_refl _, by omega, Nw, i2⟩, ?_⟩
  rintro b1 b2 b3 b4 z ⟨r1, r2, r3, j1, j2, Nz, j3⟩
  subst r1 r2 r3
  -- the next last one
  have out : v_135A_120 (fun j => Zt (d + 36 + 8) (wd3 P j) j) P (fun a1' a2' a3' s' => (a1' = b1 ∧ a2' = b2 ∧ b1.toInt ≤ a3'.toInt ∧ SNz s' ∧ ∀ b q, ¬ (b = P ∧ q = 14) → s'.1 b q = s.1 b q) ∧ (b2.toInt - a3'.toInt).toNat < (b2.toInt - b3.toInt).toNat) b1 b2 b3 b4 z (fun v s' => v = none ∧ ∀ b q, ¬ (b = P ∧ q = 14) → s'.1 b q = s.1 b q) := by
    unfold v_135A_120
    intro x1 hx1
    have := hx1 (by omega)
    exact ⟨⟨rfl, rfl, by omega, Nz, j3⟩, by omega⟩
  -- TYPES one by one
  have g37 : ∀ (q5 t0 : Int32) (w : zS), ¬ b4.toInt < b1.toInt → SNz w → (∀ b q, ¬ (b = P ∧ q = 14) → w.1 b q = s.1 b q) → v_135A_37 (fun j => Zt (d + 36 + 8) (wd3 P j) j) P (fun a1' a2' a3' s' => (a1' = b1 ∧ a2' = b2 ∧ b1.toInt ≤ a3'.toInt ∧ SNz s' ∧ ∀ b q, ¬ (b = P ∧ q = 14) → s'.1 b q = s.1 b q) ∧ (b2.toInt - a3'.toInt).toNat < (b2.toInt - b3.toInt).toNat) (fun a1' a2' a3' a4' s' => (a1' = b1 ∧ a2' = b2 ∧ a3' = b3 ∧ a4'.toInt ≤ b3.toInt ∧ b1.toInt - 1 ≤ a4'.toInt ∧ SNz s' ∧ ∀ b q, ¬ (b = P ∧ q = 14) → s'.1 b q = s.1 b q) ∧ (a4'.toInt - b1.toInt + 1).toNat < (b4.toInt - b1.toInt + 1).toNat) b1 b2 b3 b4 q5 t0 w (fun v s' => v = none ∧ ∀ b q, ¬ (b = P ∧ q = 14) → s'.1 b q = s.1 b q) := fun q5 t0 w yb Nw fw => by
    unfold v_135A_37
    intro x1 hx1
    have hxx := hx1 (by omega)
    refine ⟨fun e1 e2 e3 e4 e5 _ e7 e8 z => e1 = b1 ∧ e2 = b2 ∧ e3 = b3 ∧ e4 = b4 ∧ 0 ≤ e8.toInt ∧ e8.toInt ≤ 7 ∧ -1000 ≤ e7.toInt ∧ e7.toInt ≤ b4.toInt + 1 + 4000 * e8.toInt ∧ SNz z ∧ ∀ b q, ¬ (b = P ∧ q = 14) → z.1 b q = s.1 b q, fun _ _ _ _ _ _ _ e8 _ => (7 - e8.toInt).toNat, ⟨rfl, rfl, rfl, rfl, by decide, by decide, by omega, by rw [show (0 : Int32).toInt = 0 by decide]; omega, Nw, fw⟩, ?_⟩
    rintro e1 e2 e3 e4 e5 e6 e7 e8 z ⟨r1, r2, r3, r4, k1, k2, k3, k4, Nz, fz⟩
    subst r1 r2 r3 r4
    have nx : v_135A_118 (fun j => Zt (d + 36 + 8) (wd3 P j) j) P (fun a1' a2' a3' s' => (a1' = e1 ∧ a2' = e2 ∧ e1.toInt ≤ a3'.toInt ∧ SNz s' ∧ ∀ b q, ¬ (b = P ∧ q = 14) → s'.1 b q = s.1 b q) ∧ (e2.toInt - a3'.toInt).toNat < (e2.toInt - e3.toInt).toNat) (fun a1' a2' a3' a4' s' => (a1' = e1 ∧ a2' = e2 ∧ a3' = e3 ∧ a4'.toInt ≤ e3.toInt ∧ e1.toInt - 1 ≤ a4'.toInt ∧ SNz s' ∧ ∀ b q, ¬ (b = P ∧ q = 14) → s'.1 b q = s.1 b q) ∧ (a4'.toInt - e1.toInt + 1).toNat < (e4.toInt - e1.toInt + 1).toNat) e1 e2 e3 e4 e5 e6 e7 e8 z (fun v s' => v = none ∧ ∀ b q, ¬ (b = P ∧ q = 14) → s'.1 b q = s.1 b q) := by
      unfold v_135A_118
      intro x1 hx1
      have := hx1 (by omega)
      exact ⟨⟨rfl, rfl, rfl, by omega, by omega, Nz, fz⟩, by omega⟩
    unfold v_135A_44
    refine ⟨fun _ => nx, fun _ => ⟨fun _ => nx, fun y8 => Zt_bd (fun hBz => ?_)⟩⟩
    have h8 := bd_ar hP hBz e5
    have tz : (z.1 75 3).toInt = 18 := by rw [fz 75 3 (fun w => hP75 w.1)]; exact ht
    refine Zt.imp (Zt.mo (d := 18) (by omega) ((zw_86 (d := 0) (e := 76) hP (by decide) ⟨by omega, by omega⟩ ⟨by decide, by decide⟩ (SN_E Nz (by decide))).sb Nz)) ?_
    rintro v1 s2 ⟨⟨rfl, f2, -, -⟩, N2, B2⟩
    refine ⟨rfl, fun x4 _ => ?_⟩
    have hsl : sn (zg s2 (P + 30) (x4 * 5 + 3)) := by
      have := (bd_rw hP B2).2.2 (x4 * 5 + 3)
      exact ⟨by omega, this.2⟩
    refine Zt.imp (Zt.mo (d := 9) (by omega) ((zw_87 (d := 0) (t := 18) (e := 76) hP (by decide) hsl (by rw [f2]; exact tz) (by decide) (SN_E N2 (by decide))).sn N2)) ?_
    rintro v6 s7 ⟨⟨-, p2, p3, x8, rfl, p4, -⟩, N7⟩
    -- the rest, behind the look at one of them
    have g95 : ∀ (q10 q11 t0 : Int32) (w : zS), SNz w → (∀ b q, ¬ (b = 75 ∧ q = 3) → w.1 b q = z.1 b q) → v_135A_95 (fun j => Zt (d + 36 + 8) (wd3 P j) j) P (fun a1' a2' a3' s' => (a1' = e1 ∧ a2' = e2 ∧ e1.toInt ≤ a3'.toInt ∧ SNz s' ∧ ∀ b q, ¬ (b = P ∧ q = 14) → s'.1 b q = s.1 b q) ∧ (e2.toInt - a3'.toInt).toNat < (e2.toInt - e3.toInt).toNat) (fun a1' a2' a3' a4' s' => (a1' = e1 ∧ a2' = e2 ∧ a3' = e3 ∧ a4'.toInt ≤ e3.toInt ∧ e1.toInt - 1 ≤ a4'.toInt ∧ SNz s' ∧ ∀ b q, ¬ (b = P ∧ q = 14) → s'.1 b q = s.1 b q) ∧ (a4'.toInt - e1.toInt + 1).toNat < (e4.toInt - e1.toInt + 1).toNat) (fun a1' a2' a3' a4' _ _ a7' a8' s' => (a1' = e1 ∧ a2' = e2 ∧ a3' = e3 ∧ a4' = e4 ∧ 0 ≤ a8'.toInt ∧ a8'.toInt ≤ 7 ∧ -1000 ≤ a7'.toInt ∧ a7'.toInt ≤ e4.toInt + 1 + 4000 * a8'.toInt ∧ SNz s' ∧ ∀ b q, ¬ (b = P ∧ q = 14) → s'.1 b q = s.1 b q) ∧ (7 - a8'.toInt).toNat < (7 - e8.toInt).toNat) e1 e2 e3 e4 e5 e6 e7 e8 (z.1 75 3) q10 q11 t0 w (fun v s' => v = none ∧ ∀ b q, ¬ (b = P ∧ q = 14) → s'.1 b q = s.1 b q) := fun q10 q11 t0 w Nw' fw' => by
      unfold v_135A_95
      intro x1 _
      refine Zt.imp (Zt.mo (d := 9) (by omega) ((zw_38w (d := 0) hP).sn Nw')) ?_
      rintro v2 s3 ⟨⟨rfl, f3⟩, N3⟩
      refine ⟨rfl, fun s4 hs4 => ?_⟩
      have f4 : ∀ b q, ¬ (b = P ∧ q = 14) → s4.1 b q = s.1 b q := fun b q hb => by
        rw [hs4, zf_1]
        by_cases e : b = 75 ∧ q = 3
        · rw [if_pos e, e.1, e.2]
          exact fz 75 3 (fun w => hP75 w.1)
        · rw [if_neg e, f3 b q hb, fw' b q e]
          exact fz b q hb
      refine Zt.imp (Zt.mo (d := 9) (by omega) (zw_83 (d := 0) hP (by omega))) ?_
      rintro v5 s6 ⟨hs6, x7, rfl, l1, l2⟩
      subst hs6
      refine ⟨x7, rfl, fun x8 hx8 => ?_⟩
      have := hx8 (by omega)
      exact ⟨⟨rfl, rfl, rfl, rfl, by omega, by omega, by omega, by omega, SNz_2 (by rw [hs4, zf_2]) N3, f4⟩, by omega⟩
    have f7 : ∀ b q, ¬ (b = 75 ∧ q = 3) → s7.1 b q = z.1 b q := fun b q hb => by rw [p2 b q hb, f2]
    refine ⟨x8, rfl, fun x80 => ?_, fun _ => g95 _ _ _ s7 N7 f7⟩
    have hx8 : sn x8 := by
      rcases p4 with e | e | e
      · exact ⟨by omega, by omega⟩
      · rw [e]; exact hsl
      · exact ⟨by omega, by omega⟩
    refine Zt.imp (Zt.mo (d := 27) (by omega) ((zw_88 (d := 0) hP ⟨k3, by omega⟩ hx8 rfl (by omega) (SN_E N7 (by decide)) (SN_E N7 (by decide))).sn N7)) ?_
    rintro v9 s10 ⟨⟨f10, -, -, x11, rfl⟩, N10⟩
    exact ⟨x11, rfl, g95 _ _ _ s10 N10 (fun b q hb => by rw [f10]; exact f7 b q hb)⟩
  unfold v_135A_7 v_135A_36
  refine ⟨fun _ => out, fun yb => ⟨fun _ => out, fun _ => ⟨fun _ => g37 _ _ z yb Nz j3, fun _ => ?_⟩⟩⟩
  refine Zt.imp (Zt.mo (d := 9) (by omega) (zw_83 (d := 0) hP (by omega))) ?_
  rintro v1 s2 ⟨hs2, x3, rfl, l1, l2⟩
  subst hs2
  exact ⟨x3, rfl, fun x4 _ => ⟨fun _ => g37 _ _ s2 yb Nz j3, fun _ => g37 _ _ s2 yb Nz j3⟩⟩
theorem zw_3 (hP : P = 3 ∨ P = 39) : Zt (d + 9) (wd3 P 3) 3 [.ref 85, .int a1] s (fun v s' => v = none ∧ s'.1 = s.1) := by
  refine zc_3 hP ?_
  unfold v_3_0
  intro x1 _ s2 hs2
  exact ⟨rfl, by rw [hs2, zt_1]⟩
/-- passType -/
theorem zw_2 (hP : P = 3 ∨ P = 39) : Zt (d + 18) (wd3 P 2) 2 [.ref 85, .int a1] s (fun v s' => (∃ r : Int32, v = some (.int r)) ∧ ∀ b q, ¬ (b = 85 ∧ q = 4) → s'.1 b q = s.1 b q) := by
  refine zc_2 (d := d + 9) hP ?_
  unfold v_2_0
  refine ⟨fun _ _ c3 c4 w => 0 ≤ c4.toInt ∧ 1 ≤ c3.toInt ∧ c3.toInt ≤ 1 + c4.toInt ∧ ∀ b q, ¬ (b = 85 ∧ q = 4) → w.1 b q = s.1 b q, fun _ _ _ c4 _ => (4000 - c4.toInt).toNat, ⟨by decide, by decide, by decide, fun _ _ _ => rfl⟩, ?_⟩
  rintro c1 c2 c3 c4 w ⟨i1, i2, i3, i4⟩
  -- behind a word
  have g47 : ∀ (q2 q3 : Int32) (z : zS), ¬ 4000 ≤ c4.toInt → 1 ≤ q3.toInt → q3.toInt ≤ 2 + c4.toInt → (∀ b q, ¬ (b = 85 ∧ q = 4) → z.1 b q = s.1 b q) → vl_2_47 (fun j => Zt (d + 9 + 8) (wd3 P j) j) P (fun a1' a2' a3' a4' s' => (0 ≤ a4'.toInt ∧ 1 ≤ a3'.toInt ∧ a3'.toInt ≤ 1 + a4'.toInt ∧ ∀ b q, ¬ (b = 85 ∧ q = 4) → s'.1 b q = s.1 b q) ∧ (4000 - a4'.toInt).toNat < (4000 - c4.toInt).toNat) c1 q2 q3 c4 z (fun v s' => (∃ r : Int32, v = some (.int r)) ∧ ∀ b q, ¬ (b = 85 ∧ q = 4) → s'.1 b q = s.1 b q) := fun q2 q3 z y h3 h3' fz => by
    refine ⟨fun _ _ b3 b4 k => b4 = c4 ∧ 1 ≤ b3.toInt ∧ b3.toInt ≤ 2 + c4.toInt ∧ ∀ b q, ¬ (b = 85 ∧ q = 4) → k.1 b q = s.1 b q, fun _ _ b3 _ _ => b3.toInt.toNat, ⟨rfl, h3, h3', fz⟩, ?_⟩
    rintro b1 b2 b3 b4 k ⟨r4, j1, j2, j3⟩
    subst r4
    have n87 : ∀ k : zS, (∀ b q, ¬ (b = 85 ∧ q = 4) → k.1 b q = s.1 b q) → v_2_87 (fun j => Zt (d + 9 + 8) (wd3 P j) j) P (fun a1' a2' a3' a4' s' => (0 ≤ a4'.toInt ∧ 1 ≤ a3'.toInt ∧ a3'.toInt ≤ 1 + a4'.toInt ∧ ∀ b q, ¬ (b = 85 ∧ q = 4) → s'.1 b q = s.1 b q) ∧ (4000 - a4'.toInt).toNat < (4000 - b4.toInt).toNat) b1 b2 b3 b4 k (fun v s' => (∃ r : Int32, v = some (.int r)) ∧ ∀ b q, ¬ (b = 85 ∧ q = 4) → s'.1 b q = s.1 b q) := fun k fk' => by
      unfold v_2_87
      intro x1 _ x2 hx2
      have := hx2 (by omega)
      exact ⟨⟨by omega, by omega, by omega, fk'⟩, by omega⟩
    have n63 : v_2_63 (fun j => Zt (d + 9 + 8) (wd3 P j) j) P (fun a1' a2' a3' a4' s' => (0 ≤ a4'.toInt ∧ 1 ≤ a3'.toInt ∧ a3'.toInt ≤ 1 + a4'.toInt ∧ ∀ b q, ¬ (b = 85 ∧ q = 4) → s'.1 b q = s.1 b q) ∧ (4000 - a4'.toInt).toNat < (4000 - b4.toInt).toNat) b1 b2 b3 b4 k (fun v s' => (∃ r : Int32, v = some (.int r)) ∧ ∀ b q, ¬ (b = 85 ∧ q = 4) → s'.1 b q = s.1 b q) := by
      unfold v_2_63
      refine ⟨fun _ => ⟨fun _ => ⟨fun _ => n87 k j3, fun _ => ⟨⟨_, rfl⟩, j3⟩⟩, fun _ => ?_⟩, fun _ => ⟨⟨_, rfl⟩, j3⟩⟩
      refine Zt.imp (Zt.mo (d := 9) (by omega) (zw_3 (d := 0) hP)) ?_
      rintro v1 s2 ⟨rfl, f2⟩
      exact ⟨rfl, n87 s2 (fun b q hb => by rw [f2]; exact j3 b q hb)⟩
    unfold v_2_47
    refine ⟨fun _ => n63, fun y3 => ⟨fun _ => n63, fun _ => ?_⟩⟩
    refine Zt.imp (Zt.mo (d := 9) (by omega) (zw_3 (d := 0) hP)) ?_
    rintro v1 s2 ⟨rfl, f2⟩
    refine ⟨rfl, fun x3 hx3 x4 _ => ?_⟩
    have := hx3 (by omega)
    exact ⟨⟨rfl, by omega, by omega, fun b q hb => by rw [f2]; exact j3 b q hb⟩, by dsimp only; omega⟩
  have g35 : ∀ (q2 q3 t1 : Int32), ¬ 4000 ≤ c4.toInt → 1 ≤ q3.toInt → q3.toInt ≤ 2 + c4.toInt → (0 ≤ t1.toInt ∧ t1.toInt ≤ 1) → v_2_35 (fun j => Zt (d + 9 + 8) (wd3 P j) j) P (fun a1' a2' a3' a4' s' => (0 ≤ a4'.toInt ∧ 1 ≤ a3'.toInt ∧ a3'.toInt ≤ 1 + a4'.toInt ∧ ∀ b q, ¬ (b = 85 ∧ q = 4) → s'.1 b q = s.1 b q) ∧ (4000 - a4'.toInt).toNat < (4000 - c4.toInt).toNat) c1 q2 q3 c4 t1 w (fun v s' => (∃ r : Int32, v = some (.int r)) ∧ ∀ b q, ¬ (b = 85 ∧ q = 4) → s'.1 b q = s.1 b q) := fun q2 q3 t1 y h3 h3' ht1 => by
    unfold v_2_35
    exact ⟨ht1, fun s1 hs1 s2 hs2 s3 hs3 => g47 _ _ s3 y h3 h3' (fun b q hb => by rw [hs3, zt_1, hs2, zt_1, hs1, zf_1, if_neg hb]; exact i4 b q hb)⟩
  unfold v_2_6 v_2_90 v_2_32
  refine ⟨fun _ => ⟨⟨_, rfl⟩, i4⟩, fun y => ⟨fun _ => ⟨⟨_, rfl⟩, i4⟩, fun _ x1 _ => ⟨fun _ => g47 _ _ w y i2 (by omega) i4, fun _ x2 hx2 => ?_⟩⟩⟩
  have e2 := hx2 (by omega)
  exact ⟨fun _ => g35 _ _ _ y (by omega) (by omega) (by decide), fun _ => ⟨fun _ => g35 _ _ _ y (by omega) (by omega) (by decide), fun _ => g35 _ _ _ y (by omega) (by omega) (by decide)⟩⟩
set_option maxHeartbeats 1000000 in
/-- read -/
theorem zw_1 (hP : P = 3 ∨ P = 39) (h2 : 1 ≤ a2.toInt ∧ a2.toInt ≤ 2) (hk : 18 ≤ (s.1 P 10).toInt) (hk2 : (s.1 P 10).toInt ≤ 1300000000) (hN : SNz s) : Zx (d + 144) [(75, 0), (75, 1), (75, 2), (83, 1), (83, 2)] [] [(83, 2, 86), (83, 1, P), (75, 2, P + 22), (75, 1, P + 18), (75, 0, P)] 1 [.ref 85, .ref P, .int a2] s (fun v s' => ∃ r : Int32, v = some (.int r) ∧ (r = 0 → sn (s'.1 85 5) ∧ sn (s'.1 85 6) ∧ (s'.1 75 3).toInt = 18)) := by
  have hP85 : ¬ 85 = P ∧ ¬ 75 = P ∧ ¬ P = 85 ∧ ¬ P = 75 ∧ ¬ P = 83 := by omega
  refine zc_1 (d := d + 135) hP ?_
  unfold v_1_0
  intro s1 hs1
  have f1 : ∀ b q, ¬ (b = 85 ∧ q = 4) → s1.1 b q = s.1 b q := fun b q hb => by rw [hs1, zf_1, if_neg hb]
  refine ⟨fun c2 _ c4 w => c2 = a2 ∧ 0 ≤ c4.toInt ∧ SNz w ∧ ∀ b q, ¬ (b = 85 ∧ q = 4) → w.1 b q = s.1 b q, fun _ _ c4 _ => (2 - c4.toInt).toNat, ⟨rfl, by decide, SNz_2 (by rw [hs1, zf_2]) hN, f1⟩, ?_⟩
  rintro c2 c3 c4 w ⟨r2, i1, Nw, i2⟩
  subst r2
  have w10 : w.1 P 10 = s.1 P 10 := i2 P 10 (fun z => hP85.2.2.1 z.1)
  unfold v_1_7
  refine ⟨fun _ => ⟨fun _ => ?_, fun _ => ⟨_, rfl, fun e => absurd e (by decide)⟩⟩, fun y => ?_⟩
  rotate_left
  · refine Zt.imp (Zt.mo (d := 18) (by omega) ((zw_2 (d := 0) hP).sn Nw)) ?_
    rintro v6 s7 ⟨⟨⟨x8, rfl⟩, f7⟩, N7⟩
    unfold v_1_29 v_1_30
    have nx : ∀ x2 : Int32, (-2147483648 ≤ c4.toInt + 1 ∧ c4.toInt + 1 ≤ 2147483647 → x2.toInt = c4.toInt + 1) → 0 ≤ x2.toInt ∧ (2 - x2.toInt).toNat < (2 - c4.toInt).toNat := fun x2 hx2 => by
      have := hx2 (by omega)
      omega
    refine ⟨x8, rfl, fun _ => ⟨_, rfl, fun e => absurd e (by decide)⟩, fun _ x9 _ => ⟨fun _ => ⟨fun _ x1 _ x2 hx2 => ?_, fun _ => ⟨_, rfl, fun e => absurd e (by decide)⟩⟩, fun _ => ⟨fun _ x1 _ x2 hx2 => ?_, fun _ => ⟨_, rfl, fun e => absurd e (by decide)⟩⟩⟩⟩
    · exact ⟨⟨rfl, (nx x2 hx2).1, N7, fun b q hb => by rw [f7 b q hb]; exact i2 b q hb⟩, (nx x2 hx2).2⟩
    · exact ⟨⟨rfl, (nx x2 hx2).1, N7, fun b q hb => by rw [f7 b q hb]; exact i2 b q hb⟩, (nx x2 hx2).2⟩
  refine Zu.imp (Zu.mo (d := 18) (by omega) ((zw_81 (d := 0) hP).sn Nw)) ?_
  rintro v1 s2 ⟨⟨rfl, -, t2, f2⟩, N2⟩
  refine ⟨rfl, ?_⟩
  refine Zu.imp (Zu.mo (d := 5) (by omega) ((zc_121A (d := 0) (Q := fun v s' => v = none ∧ s' = s2) hP (by unfold v_121A_0; exact ⟨rfl, rfl⟩)).sn N2)) ?_
  rintro v3 s4 ⟨⟨rfl, hs4⟩, N4⟩
  refine ⟨rfl, fun s5 hs5 => ?_⟩
  subst hs4
  have f5 : ∀ b q, ¬ (b = P ∧ q = 14) → s5.1 b q = s4.1 b q := fun b q hb => by rw [hs5, zf_1, if_neg hb]
  have k5 : s5.1 P 10 = s.1 P 10 := by rw [f5 P 10 (by omega), f2 P 10 (fun z => hP85.2.2.2.1 z.1), w10]
  have t5 : (s5.1 75 3).toInt = 18 := by rw [f5 75 3 (fun z => hP85.2.1 z.1), t2]; decide
  rw [k5]
  -- the types asked for, one by one
  refine ⟨fun b2 _ b4 b5 z => b2 = c2 ∧ b4 = s.1 P 10 ∧ 0 ≤ b5.toInt ∧ b5.toInt ≤ c2.toInt ∧ SNz z ∧ 18 ≤ (z.1 P 10).toInt ∧ (z.1 P 10).toInt ≤ (s.1 P 10).toInt + 5000 * b5.toInt ∧ (z.1 75 3).toInt = 18 ∧ (1 ≤ b5.toInt → sn (z.1 85 5) ∧ sn (z.1 85 6)), fun _ _ _ b5 _ => (2 - b5.toInt).toNat, ⟨rfl, rfl, by decide, by rw [show (0 : Int32).toInt = 0 by decide]; omega, SNz_2 (by rw [hs5, zf_2]) N4, by rw [k5]; exact hk, by rw [k5, show (0 : Int32).toInt = 0 by decide]; omega, t5, fun z => absurd z (by decide)⟩, ?_⟩
  rintro b2 b3 b4 b5 z ⟨r2, r4, j1, j2, Nz, j3, j4, j5, j6⟩
  subst r2 r4
  have out : ((z.1 P 14).toInt = 0 → b2.toInt ≤ b5.toInt) → v_1_97 (fun j => Zt (d + 135 + 8) (wd3 P j) j) P (d + 135 + 8) b2 b3 (s.1 P 10) b5 z (fun v s' => ∃ r : Int32, v = some (.int r) ∧ (r = 0 → sn (s'.1 85 5) ∧ sn (s'.1 85 6) ∧ (s'.1 75 3).toInt = 18)) := fun h14 => by
    unfold v_1_97 v_1_106
    refine ⟨by omega, fun s1 hs1 => ⟨fun _ => ⟨_, rfl, fun e => absurd e (by decide)⟩, fun z14 => ⟨_, rfl, fun _ => ?_⟩⟩⟩
    have g : ∀ b q, ¬ (b = P ∧ q = 10) → s1.1 b q = z.1 b q := fun b q hb => by rw [hs1, zf_1, if_neg hb]
    rw [g P 14 (by omega)] at z14
    have := h14 z14
    rw [g 85 5 (fun z => hP85.1 z.1), g 85 6 (fun z => hP85.1 z.1), g 75 3 (fun z => hP85.2.1 z.1)]
    exact ⟨(j6 (by omega)).1, (j6 (by omega)).2, j5⟩
  unfold v_1_61
  refine ⟨fun e => out (fun _ => e), fun y => ⟨fun n => out (fun z => absurd z n), fun z14 => ?_⟩⟩
  have body : ∀ t1 : Int32, sn t1 → v_1_77 (fun j => Zt (d + 135 + 8) (wd3 P j) j) P (d + 135 + 8) (fun a2' a3' a4' a5' s' => (a2' = b2 ∧ a4' = s.1 P 10 ∧ 0 ≤ a5'.toInt ∧ a5'.toInt ≤ b2.toInt ∧ SNz s' ∧ 18 ≤ (s'.1 P 10).toInt ∧ (s'.1 P 10).toInt ≤ (s.1 P 10).toInt + 5000 * a5'.toInt ∧ (s'.1 75 3).toInt = 18 ∧ (1 ≤ a5'.toInt → sn (s'.1 85 5) ∧ sn (s'.1 85 6))) ∧ (2 - a5'.toInt).toNat < (2 - b5.toInt).toNat) b2 b3 (s.1 P 10) b5 (z.1 P 10) t1 z (fun v s' => ∃ r : Int32, v = some (.int r) ∧ (r = 0 → sn (s'.1 85 5) ∧ sn (s'.1 85 6) ∧ (s'.1 75 3).toInt = 18)) := fun t1 ht1 => by
    unfold v_1_77
    intro s1 hs1 s2 hs2
    have g2 : ∀ b q, ¬ (b = 85 ∧ (q = 5 ∨ q = 6)) → s2.1 b q = z.1 b q := fun b q hb => by
      rw [hs2, zf_1, if_neg (fun w => hb ⟨w.1, Or.inr w.2⟩), hs1, zf_1, if_neg (fun w => hb ⟨w.1, Or.inl w.2⟩)]
    have g5 : s2.1 85 5 = t1 := by rw [hs2, zf_1, if_neg (by decide), hs1, zf_1, if_pos ⟨rfl, rfl⟩]
    have g6 : s2.1 85 6 = z.1 P 10 := by rw [hs2, zf_1, if_pos ⟨rfl, rfl⟩]
    have k2 : s2.1 P 10 = z.1 P 10 := g2 P 10 (fun w => hP85.2.2.1 w.1)
    have N2' : SNz s2 := SNz_2 (by rw [hs2, zf_2, hs1, zf_2]) Nz
    refine Zt.imp (Zt.mo (d := 36 + 9 * 10) (by omega) ((zw_132A hP 10 s2 b3 1 (by decide) (by decide) (by rw [k2]; exact j3) (by rw [k2]; omega) N2').sn N2')) ?_
    rintro v3 s4' ⟨⟨⟨x5, rfl⟩, l1, -, l3⟩, N4'⟩
    rw [k2] at l1
    refine ⟨x5, rfl, fun x6 _ => ?_⟩
    refine Zt.imp (Zt.mo (d := 45) (by omega) ((zw_135A (d := 0) hP (by omega) (by omega) (by rw [l3 75 3 (fun w => hP85.2.1 w.1), g2 75 3 (by decide)]; exact j5) N4').sn N4')) ?_
    rintro v7 s8 ⟨⟨rfl, f8⟩, N8⟩
    refine ⟨rfl, fun x9 hx9 => ?_⟩
    have e9 := hx9 (by omega)
    have k8 : s8.1 P 10 = s4'.1 P 10 := f8 P 10 (by omega)
    refine ⟨⟨rfl, rfl, by omega, by omega, N8, by rw [k8]; omega, by rw [k8]; omega, ?_, fun _ => ⟨?_, ?_⟩⟩, by omega⟩
    · rw [f8 75 3 (fun w => hP85.2.1 w.1), l3 75 3 (fun w => hP85.2.1 w.1), g2 75 3 (by decide)]
      exact j5
    · rw [f8 85 5 (fun w => hP85.1 w.1), l3 85 5 (fun w => hP85.1 w.1), g5]
      exact ht1
    · rw [f8 85 6 (fun w => hP85.1 w.1), l3 85 6 (fun w => hP85.1 w.1), g6]
      exact ⟨by omega, by omega⟩
  exact ⟨fun n => body _ (j6 (by omega)).1, fun _ => body _ ⟨by omega, by omega⟩⟩
/-- readTape -/
theorem zw_152 (hP : P = 3 ∨ P = 39) (h1 : 1 ≤ a1.toInt ∧ a1.toInt ≤ 2) (hk : ¬ (s.1 0 11).toInt = 0 → 18 ≤ (s.1 P 10).toInt ∧ (s.1 P 10).toInt ≤ 1300000000) (hN : SNz s) : Zx (d + 153) [(75, 0), (75, 1), (75, 2), (83, 1), (83, 2)] [(0, 9, P)] [(83, 2, 86), (83, 1, P), (75, 2, P + 22), (75, 1, P + 18), (75, 0, P)] 152 [.ref 0, .int a1] s (fun v s' => ∃ r : Int32, v = some (.int r) ∧ (r = 0 → sn (s'.1 85 5) ∧ sn (s'.1 85 6) ∧ (s'.1 75 3).toInt = 18)) := by
  refine zc_152 (d := d + 144) hP ?_
  unfold v_152_0
  refine Zt.imp (Zt.mo (d := 45) (by omega) ((zw_110T (d := 0) hN).sn hN)) ?_
  rintro v1 s2 ⟨⟨rfl, f2⟩, N2⟩
  refine ⟨rfl, fun s3 hs3 => ⟨fun _ => ⟨_, rfl, fun e => absurd e (by decide)⟩, fun n => ?_⟩⟩
  have f3 : ∀ b q, ¬ b = 1 → ¬ b = 87 → ¬ b = 89 → s3.1 b q = s.1 b q := fun b q g1 g2 g3 => by rw [hs3, zf_1, if_neg (fun w => g1 w.1)]; exact f2 b q g2 g3
  rw [f3 0 11 (by decide) (by decide) (by decide)] at n
  obtain ⟨k1, k2⟩ := hk n
  have eP : s3.1 P 10 = s.1 P 10 := f3 P 10 (by omega) (by omega) (by omega)
  refine Zx.imp (Zx.mo (d := 144) (by omega) (zw_1 (d := 0) hP h1 (by rw [eP]; exact k1) (by rw [eP]; exact k2) (SNz_2 (by rw [hs3, zf_2]) N2))) ?_
  rintro v4 s5 ⟨r, rfl, h⟩
  exact ⟨r, rfl, fun _ => ⟨r, rfl, h⟩, fun _ => ⟨r, rfl, h⟩⟩
/-- implementing -/
theorem zw_141 (hP : P = 3 ∨ P = 39) (hk : ¬ (s.1 0 11).toInt = 0 → 18 ≤ (s.1 P 10).toInt ∧ (s.1 P 10).toInt ≤ 1300000000) (hN : SNz s) : Zu (d + 162) [(75, 0), (75, 1), (75, 2), (83, 1), (83, 2)] [(0, 9, P)] [] 141 [.ref 0] s (fun _ _ => True) := by
  refine zc_141 (d := d + 153) hP ?_
  unfold v_141_0 v_141_28
  refine Zx.imp (Zx.mo (d := 153) (by omega) ((zw_152 (d := 0) (a1 := 2) hP (by decide) hk hN).sb hN)) ?_
  rintro v1 s2 ⟨⟨x3, rfl, h⟩, N2, -⟩
  refine ⟨x3, rfl, fun e => ?_, fun _ => trivial⟩
  obtain ⟨q1, q2, q3⟩ := h e
  refine Zt.imp (Zt.mo (d := 27) (by omega) (zw_88 (d := 0) (t := 18) hP q1 q2 q3 (by decide) (SN_E N2 (by decide)) (SN_E N2 (by decide)))) ?_
  rintro v4 s5 ⟨-, -, -, x6, rfl⟩
  exact ⟨x6, rfl, fun _ => ⟨fun _ => trivial, fun _ => trivial⟩, fun _ => trivial⟩
/-- isMade -/
theorem zw_147 (hP : P = 3 ∨ P = 39) (hk : ¬ (s.1 0 11).toInt = 0 → 18 ≤ (s.1 P 10).toInt ∧ (s.1 P 10).toInt ≤ 1300000000) (hN : SNz s) : Zu (d + 162) [(75, 0), (75, 1), (75, 2), (83, 1), (83, 2)] [(0, 9, P)] [] 147 [.ref 0] s (fun _ _ => True) := by
  refine zc_147 (d := d + 153) hP ?_
  unfold v_147_0 v_147_24
  refine Zx.imp (Zx.mo (d := 153) (by omega) ((zw_152 (d := 0) (a1 := 1) hP (by decide) hk hN).sb hN)) ?_
  rintro v1 s2 ⟨⟨x3, rfl, h⟩, N2, -⟩
  refine ⟨x3, rfl, fun e => ⟨fun _ => ?_, fun _ => trivial⟩, fun _ => trivial⟩
  refine Zt.imp (Zt.mo (d := 18) (by omega) (zw_98 (d := 0) hP N2)) ?_
  rintro v4 s5 ⟨-, x6, rfl, -⟩
  exact ⟨x6, rfl, fun _ => trivial, fun _ => trivial⟩
end ZZZQ
