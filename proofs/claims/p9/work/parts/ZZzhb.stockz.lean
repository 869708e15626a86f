/-! ===== the class: Stock's addCall, goThrough, answer in any sane state ===== -/
section ZZZHB
variable {d P : Nat} {s u : zS} {a1 a2 a3 : Int32}
/-- a cell of code -/
theorem SN_c (hP : P = 3 ∨ P = 39) (h : SNz s) (x : Int32) : -1000 ≤ (zg s (P + 34) x).toInt ∧ (zg s (P + 34) x).toInt ≤ 100000 := by
  rcases hP with rfl | rfl
  · exact SN_g h (e := 37) (by decide) x
  · exact SN_g h (e := 73) (by decide) x
theorem SN_cq (hP : P = 3 ∨ P = 39) (h : SNz s) (x : Int32) : sq (zg s (P + 34) x) := by
  have := SN_c hP h x
  exact ⟨this.1, by omega⟩
set_option maxHeartbeats 1000000 in
/-- addCall -/
theorem zw_108 (hP : P = 3 ∨ P = 39) (hN : SNz s) (hT : STz s) : Zt (d + 36) (wd2 P 108) 108 [.ref 197, .int a1] s (fun v s' => v = none ∧ STz s') := by
  refine zc_108 (d := d + 27) hP ?_
  unfold v_108_0
  intro x1 _ x2 _ x3 _
  obtain ⟨ct, hct⟩ : ∃ ct, ct = zg s (P + 34) x1 := ⟨_, rfl⟩
  obtain ⟨to, hto⟩ : ∃ to, to = zg s (P + 34) x2 := ⟨_, rfl⟩
  have c1 := SN_c hP hN x1
  have c2 := SN_c hP hN x2
  rw [← hct] at c1
  rw [← hto] at c2
  rw [← hct, ← hto]
  refine Zt.imp (Zt.mo (d := 9) (by omega) ((zw_102 (d := 0) hP ⟨by decide, by decide⟩ (SN_cq hP hN _) ⟨c1.1, by omega⟩).sn hN)) ?_
  rintro v4 s5 ⟨⟨rfl, f1, -⟩, N5⟩
  refine ⟨rfl, ?_⟩
  refine ⟨fun b1 b2 b3 b4 u => b2 = ct ∧ 0 ≤ b4.toInt ∧ b4.toInt ≤ 100000 ∧ -1000 ≤ b3.toInt ∧ b3.toInt ≤ 100000 + 4000 * b4.toInt ∧ SNz u ∧ STz u, fun _ _ _ b4 _ => (100000 - b4.toInt).toNat, ⟨rfl, by decide, by decide, by omega, by rw [show (0 : Int32).toInt = 0 by decide]; omega, N5, STz_1 f1 hT⟩, ?_⟩
  rintro b1 b2 b3 b4 u ⟨e2, i1, i2, i3, i4, Nu, Tu⟩
  subst e2
  have fin : v_108_51 (fun j => Zt (d + 27 + 8) (wd2 P j) j) P b1 b2 b3 b4 u (fun v s' => v = none ∧ STz s') := by
    unfold v_108_51
    intro x1 _
    refine Zt.imp (Zt.mo (d := 9) (by omega) ((zw_87 (d := 0) (t := 18) (e := 76) hP (by decide) (sq_sn (SN_cq hP Nu x1)) Tu.1 (by decide) (SN_E Nu (by decide))).sn Nu)) ?_
    rintro v2 s3 ⟨⟨p1, p2, -, x4, rfl, p4, -⟩, N3⟩
    refine ⟨x4, rfl, fun s5 hs5 => ?_⟩
    have f5 : s5.1 = u.1 := by
      funext b q
      rw [hs5, zf_1]
      by_cases e : b = 75 ∧ q = 3
      · rw [if_pos e, e.1, e.2]
      · rw [if_neg e, p2 b q e]
    have N5 : SNz s5 := SNz_2 (by rw [hs5, zf_2]) N3
    have T5 : STz s5 := STz_1 f5 Tu
    have bad : ∀ (q1 q2 q3 q4 q5 : Int32), v_108_78 (fun j => Zt (d + 27 + 8) (wd2 P j) j) P q1 q2 q3 q4 q5 s5 (fun v s' => v = none ∧ STz s') := fun _ _ _ _ _ => by
      unfold v_108_78
      refine fun s1 hs1 => ⟨rfl, STz_e (s := s5) (fun b q hb => by rw [hs1, zf_1, if_neg hb]) (fun z => ?_) T5⟩
      rw [hs1, zf_1, if_pos ⟨rfl, rfl⟩] at z
      exact absurd z (by decide)
    refine ⟨fun _ => bad _ _ _ _ _, fun x0 => ⟨fun z => ?_, fun _ => bad _ _ _ _ _⟩⟩
    have hx4 : x4.toInt ≤ 1000000000 := by
      have := SN_c hP Nu x1
      rcases p4 with e | e | e
      · omega
      · rw [e]; omega
      · omega
    refine ⟨by omega, fun s6 hs6 => ?_⟩
    have N6 : SNz s6 := by
      rw [hs6]
      refine SNz_zt N5 (fun _ => ?_)
      show -1000 ≤ x4.toInt ∧ x4.toInt ≤ 1000000000
      omega
    have T6 : STz s6 := STz_1 (by rw [hs6, zt_1]) T5
    have z6 : (s6.1 197 10).toInt = 0 := by
      rw [hs6, zt_1]
      exact z
    refine Zt.imp (Zt.mo (d := 18) (by omega) (zw_103 (d := 0) (a2 := 10) hP (Or.inl rfl) (by decide))) ?_
    rintro v7 s8 ⟨hs8, x9, rfl⟩
    subst hs8
    unfold v_108_126
    refine ⟨x9, rfl, fun _ => ⟨rfl, T6⟩, fun _ => Zt_bd (fun hB => ?_)⟩
    have h198 := hB.2 198 2 0 151 (by decide +kernel) (by decide +kernel)
    have h200 := hB.2 200 2 0 1510 (by decide +kernel) (by decide +kernel)
    obtain ⟨T1, T2⟩ := T6
    unfold STq at T2
    have T3 := T2.2 z6
    refine Zt.imp (Zt.mo (d := 9) (by omega) (zw_83 (d := 0) hP (by omega))) ?_
    rintro v10 s11 ⟨hs11, x12, rfl, r1, r2⟩
    subst hs11
    refine ⟨x12, rfl, fun x13 hx13 => ?_⟩
    have e13 := hx13 (by omega)
    refine Zt.imp (Zt.mo (d := 9) (by omega) ((zw_107 (d := 0) hP rfl (by omega) (by omega)).sn N6)) ?_
    rintro v14 s15 ⟨⟨m1, m2, m3, x16, rfl, m4⟩, N15⟩
    refine ⟨x16, rfl, by omega, fun s17 hs17 => ?_⟩
    have N17 : SNz s17 := by
      rw [hs17]
      refine SNz_zt N15 (fun _ => ?_)
      show -1000 ≤ x16.toInt ∧ x16.toInt ≤ 1000000000
      omega
    have f17 : s17.1 = s15.1 := by rw [hs17, zt_1]
    -- CALLS grow by at least one cell
    refine ⟨fun _ _ _ _ _ b6 w => 0 ≤ b6.toInt ∧ b6.toInt ≤ 9 ∧ SNz w ∧ (∀ b q, ¬ (b = 200 ∧ q = 2) → w.1 b q = s15.1 b q) ∧ ((s11.1 200 2).toInt ≤ (w.1 200 2).toInt ∧ (w.1 200 2).toInt ≤ 1510), fun _ _ _ _ _ b6 _ => (9 - b6.toInt).toNat, ⟨by decide, by decide, N17, fun b q _ => by rw [f17], by rw [f17, m2 200 2 (by decide)]; omega⟩, ?_⟩
    rintro q1 q2 q3 q4 q5 q6 w ⟨j1, j2, Nw, jf, jc⟩
    have zn : ∀ v : Int32, ((za w 200 v).1 200 2).toInt = if (w.1 200 2).toInt < 1510 then (w.1 200 2).toInt + 1 else (w.1 200 2).toInt := fun v => by
      rw [za_n (by omega) (by omega), show (lim 200 : Int) = 1510 by decide +kernel]
    unfold v_108_108
    refine ⟨fun _ s1 hs1 => ?_, fun y => ⟨SN_q 204 Nw _, fun s4 hs4 x5 hx5 => ?_⟩⟩
    rotate_left
    · have := hx5 (by omega)
      have e := zn (zg w 204 q6)
      refine ⟨⟨by omega, by omega, by rw [hs4]; exact SNz_za Nw (fun _ => SN_g Nw (by decide) _), fun b q hb => by rw [hs4, za_o hb]; exact jf b q hb, ?_⟩, by dsimp only; omega⟩
      rw [hs4, e]
      split <;> omega
    refine Zt.imp (Zt.mo (d := 18) (by omega) (zw_104 (d := 0) hP)) ?_
    rintro v2 s3 ⟨rfl, -, k2, k3⟩
    unfold v_108_126
    refine ⟨rfl, rfl, ?_⟩
    have g : ∀ b q, ¬ (b = 200 ∧ q = 2) → s1.1 b q = s15.1 b q := fun b q hb => by rw [hs1, za_o hb]; exact jf b q hb
    have e0 := zn 0
    rw [← hs1] at e0
    unfold STz STq
    rw [k2 75 3 (by decide), g 75 3 (by decide), m2 75 3 (by decide), k2 197 7 (by decide), g 197 7 (by decide), m3, k2 198 2 (by decide), k2 200 2 (by decide)]
    refine ⟨T1, by omega, fun z' => ?_⟩
    obtain ⟨-, k4, k5⟩ := k3 z'
    refine ⟨k4, k5, ?_⟩
    rw [g 198 2 (by decide), m2 198 2 (by decide)]
    split at e0 <;> omega
  unfold v_108_29
  refine ⟨fun _ => fin, fun y => ⟨fun _ => fin, fun z x1 _ => ?_⟩⟩
  refine Zt.imp (Zt.mo (d := 27) (by omega) ((zw_106 (d := 0) hP ⟨by omega, by omega⟩ Nu Tu).sn Nu)) ?_
  rintro v2 s3 ⟨⟨T3, x4, rfl, q4⟩, N3⟩
  refine ⟨x4, rfl, q4, fun s5 hs5 => ?_⟩
  refine Zt.imp (Zt.mo (d := 9) (by omega) (zw_83 (d := 0) hP (by omega))) ?_
  rintro v6 s7 ⟨hs7, x8, rfl, r1, r2⟩
  subst hs7
  refine ⟨x8, rfl, fun x9 hx9 => ?_⟩
  have := hx9 (by omega)
  exact ⟨⟨rfl, by omega, by omega, by omega, by omega, by rw [hs5]; exact SNz_zt N3 (fun _ => q4), STz_1 (by rw [hs5, zt_1]) T3⟩, by dsimp only; omega⟩
/-- goThrough -/
theorem zw_105 (hP : P = 3 ∨ P = 39) (hN : SNz s) (hT : STz s) : Zt (d + 45) (wd2 P 105) 105 [.ref 197, .int a1] s (fun v s' => v = none ∧ STz s') := by
  have hP34 : P + 34 = 37 ∨ P + 34 = 73 := by omega
  refine Zt_bd (fun hB => zc_105 (d := d + 36) hP ?_)
  have h37 : (s.1 (P + 34) 2).toInt ≤ 24000 := by
    rcases hP with rfl | rfl
    · exact (hB.2 37 2 0 24000 (by decide +kernel) (by decide +kernel)).2
    · exact (hB.2 73 2 0 24000 (by decide +kernel) (by decide +kernel)).2
  unfold v_105_0
  intro x1 _
  refine ⟨fun _ c2 _ u => c2 = s.1 (P + 34) 2 ∧ SNz u ∧ STz u, fun _ _ c3 _ => (24000 - c3.toInt).toNat, ⟨rfl, hN, hT⟩, ?_⟩
  rintro c1 c2 c3 u ⟨e2, Nu, Tu⟩
  rw [← e2] at h37
  have nxt : ∀ w : zS, ¬ c2.toInt ≤ c3.toInt → SNz w → STz w → v_105_39 (fun j => Zt (d + 36 + 8) (wd2 P j) j) P (fun a1' a2' a3' s' => (a2' = s.1 (P + 34) 2 ∧ SNz s' ∧ STz s') ∧ (24000 - a3'.toInt).toNat < (24000 - c3.toInt).toNat) c1 c2 c3 w (fun v s' => v = none ∧ STz s') := fun w y Nw Tw => by
    unfold v_105_39
    intro x1 hx1
    have := hx1 (by have := c3.le_toInt; omega)
    exact ⟨⟨e2, Nw, Tw⟩, by omega⟩
  unfold v_105_9 v_105_41
  refine ⟨fun _ => ⟨rfl, Tu⟩, fun y => ⟨fun _ => ⟨rfl, Tu⟩, fun z x1 _ => ⟨fun _ => nxt u y Nu Tu, fun _ => ⟨rfl, Tu⟩, fun _ x2 _ => ?_, fun _ => ?_, fun _ x8 _ => ?_⟩⟩⟩
  · refine Zt.imp (Zt.mo (d := 27) (by omega) ((zw_106 (d := 0) hP (SN_cq hP Nu x2) Nu Tu).sn Nu)) ?_
    rintro v3 s4 ⟨⟨T4, x5, rfl, -⟩, N4⟩
    exact ⟨x5, rfl, nxt s4 y N4 T4⟩
  · refine Zt.imp (Zt.mo (d := 36) (by omega) ((zw_108 (d := 0) hP Nu Tu).sn Nu)) ?_
    rintro v6 s7 ⟨⟨rfl, T7⟩, N7⟩
    exact ⟨rfl, nxt s7 y N7 T7⟩
  · refine Zt.imp (Zt.mo (d := 27) (by omega) ((zw_106 (d := 0) hP (SN_cq hP Nu x8) Nu Tu).sn Nu)) ?_
    rintro v9 s10 ⟨⟨T10, x11, rfl, -⟩, N10⟩
    exact ⟨x11, rfl, nxt s10 y N10 T10⟩
/-- answer -/
theorem zw_99 (hP : P = 3 ∨ P = 39) (hN : SNz s) (hT : STz s) : Zt (d + 36) (wd2 P 99) 99 [.ref 197, .int a1] s (fun v s' => v = none ∧ STz s') := by
  refine Zt_bd (fun hB => zc_99 (d := d + 27) hP ?_)
  unfold v_99_0
  intro x1 _ x2 _
  refine ⟨fun _ _ _ u => SNz u ∧ STz u ∧ 0 ≤ (u.1 198 2).toInt ∧ (u.1 198 2).toInt ≤ 151, fun _ _ c3 _ => (151 - c3.toInt).toNat, ⟨hN, hT, hB.2 198 2 0 151 (by decide +kernel) (by decide +kernel)⟩, ?_⟩
  rintro c1 c2 c3 u ⟨Nu, Tu, u1, u2⟩
  have out : v_99_74 (fun j => Zt (d + 27 + 8) (wd2 P j) j) P c1 c2 c3 u (fun v s' => v = none ∧ STz s') := by
    unfold v_99_74
    exact ⟨by omega, fun s1 hs1 => ⟨rfl, STz_1 (by rw [hs1, zt_1]) Tu⟩⟩
  have nxt : ∀ (q4 q5 q6 : Int32) (w : zS), ¬ (u.1 198 2).toInt ≤ c3.toInt → SNz w → STz w → (0 ≤ (w.1 198 2).toInt ∧ (w.1 198 2).toInt ≤ 151) → v_99_72 (fun j => Zt (d + 27 + 8) (wd2 P j) j) P (fun a1' a2' a3' s' => (SNz s' ∧ STz s' ∧ 0 ≤ (s'.1 198 2).toInt ∧ (s'.1 198 2).toInt ≤ 151) ∧ (151 - a3'.toInt).toNat < (151 - c3.toInt).toNat) c1 c2 c3 q4 q5 q6 w (fun v s' => v = none ∧ STz s') := fun q4 q5 q6 w y Nw Tw hw => by
    unfold v_99_72
    intro x1 hx1
    have := hx1 (by have := c3.le_toInt; omega)
    exact ⟨⟨Nw, Tw, hw⟩, by omega⟩
  -- behind the look whether a type fits
  have go : ∀ (q5 t0 t1 : Int32) (w : zS), ¬ (u.1 198 2).toInt ≤ c3.toInt → SNz w → STz w → (0 ≤ (w.1 198 2).toInt ∧ (w.1 198 2).toInt ≤ 151) → (0 ≤ t1.toInt ∧ t1.toInt ≤ 1) → (t1.toInt = 0 → (w.1 197 10).toInt = 0) → v_99_55 (fun j => Zt (d + 27 + 8) (wd2 P j) j) P (fun a1' a2' a3' s' => (SNz s' ∧ STz s' ∧ 0 ≤ (s'.1 198 2).toInt ∧ (s'.1 198 2).toInt ≤ 151) ∧ (151 - a3'.toInt).toNat < (151 - c3.toInt).toNat) c1 c2 c3 (zg u 198 c3) q5 t0 t1 w (fun v s' => v = none ∧ STz s') := fun q5 t0 t1 w y Nw Tw hw ht1 ht0 => by
    unfold v_99_55
    refine ⟨ht1, fun s1 hs1 => ?_⟩
    have N1 : SNz s1 := SNz_2 (by rw [hs1, zf_2]) Nw
    have T1 : STz s1 := STz_e (s := w) (fun b q hb => by rw [hs1, zf_1, if_neg hb]) (fun z => by
      rw [hs1, zf_1, if_pos ⟨rfl, rfl⟩] at z
      exact ht0 z) Tw
    have h1 : s1.1 198 2 = w.1 198 2 := by rw [hs1, zf_1, if_neg (by decide)]
    refine ⟨fun _ => nxt _ _ _ s1 y N1 T1 (by rw [h1]; exact hw), fun _ x2 _ => ?_⟩
    refine Zt.imp (Zt.mo (d := 9) (by omega) (zw_53 (d := 0) hP)) ?_
    rintro v3 s4 ⟨hs4, x5, rfl, q1, q2⟩
    subst hs4
    refine ⟨x5, rfl, ?_⟩
    refine Zt.imp (Zt.mo (d := 27) (by omega) ((zw_100 (d := 0) hP (SN_q 198 Nu _) ⟨by omega, by omega⟩ N1 T1).sb N1)) ?_
    rintro v6 s7 ⟨⟨rfl, T7⟩, N7, B7⟩
    exact ⟨rfl, nxt _ _ _ s7 y N7 T7 (B7.2 198 2 0 151 (by decide +kernel) (by decide +kernel))⟩
  have g44 : ∀ (q5 t0 : Int32) (w : zS), ¬ (u.1 198 2).toInt ≤ c3.toInt → SNz w → STz w → (0 ≤ (w.1 198 2).toInt ∧ (w.1 198 2).toInt ≤ 151) → v_99_44 (fun j => Zt (d + 27 + 8) (wd2 P j) j) P (fun a1' a2' a3' s' => (SNz s' ∧ STz s' ∧ 0 ≤ (s'.1 198 2).toInt ∧ (s'.1 198 2).toInt ≤ 151) ∧ (151 - a3'.toInt).toNat < (151 - c3.toInt).toNat) c1 c2 c3 (zg u 198 c3) q5 t0 w (fun v s' => v = none ∧ STz s') := fun q5 t0 w y Nw Tw hw => by
    unfold v_99_44 v_99_52
    exact ⟨fun _ => go _ _ _ w y Nw Tw hw (by decide) (fun z => absurd z (by decide)), fun z => ⟨fun _ => go _ _ _ w y Nw Tw hw (by decide) (fun _ => z), fun _ => go _ _ _ w y Nw Tw hw (by decide) (fun z => absurd z (by decide))⟩⟩
  unfold v_99_11
  refine ⟨fun _ => out, fun y => ⟨fun _ => out, fun z => ⟨fun _ => g44 _ _ u y Nu Tu ⟨u1, u2⟩, fun _ => ?_⟩⟩⟩
  refine Zt.imp (Zt.mo (d := 27) (by omega) ((zw_88 (d := 0) (t := 18) hP (sq_sn (SN_q 198 Nu _)) (sq_sn (SN_q 200 Nu _)) Tu.1 (by decide) (SN_E Nu (by decide)) (SN_E Nu (by decide))).sn Nu)) ?_
  rintro v1 s2 ⟨⟨f1, -, -, x3, rfl⟩, N2⟩
  exact ⟨x3, rfl, g44 _ _ s2 y N2 (STz_1 f1 Tu) (by rw [f1]; exact ⟨u1, u2⟩)⟩
end ZZZHB
