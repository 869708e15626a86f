/-! ===== the class: Machine in any sane state ===== -/
/-- tp: where the next TYPE is put; lf: steps that are left -/
def PHq (tp lf : Int) : Prop := (tp ≤ 500000000 → lf ≤ 5001) ∧ (500000000 < tp → tp + 60 * lf ≤ 500300120 ∧ tp ≤ 500300120)
def MCz (s : zS) : Prop := 18 ≤ (s.1 75 3).toInt ∧ (s.1 75 3).toInt ≤ 500300180 ∧ ((s.1 105 13).toInt = 5 → PHq (s.1 75 3).toInt (s.1 105 9).toInt)
section ZZZJ
variable {d P : Nat} {s u : zS} {a1 a2 : Int32}
theorem MCz_e (h1 : u.1 75 3 = s.1 75 3) (h2 : u.1 105 9 = s.1 105 9) (h3 : (u.1 105 13).toInt = 5 → (s.1 105 13).toInt = 5) (hM : MCz s) : MCz u := by
  unfold MCz at hM ⊢
  rw [h1, h2]
  exact ⟨hM.1, hM.2.1, fun z => hM.2.2 (h3 z)⟩
theorem zw_23 (hP : P = 3 ∨ P = 39) (h1 : 0 ≤ a1.toInt ∧ a1.toInt ≤ 4000) : Zt (d + 9) (wd2 P 23) 23 [.ref 105, .int a1] s (fun v s' => s'.2 = s.2 ∧ (∀ b q, ¬ (b = 105 ∧ (q = 9 ∨ q = 10 ∨ q = 13)) → s'.1 b q = s.1 b q) ∧ ((s'.1 105 13).toInt = 5 → (s.1 105 13).toInt = 5 ∧ (s'.1 105 9).toInt = (s.1 105 9).toInt - a1.toInt ∧ a1.toInt ≤ (s.1 105 9).toInt) ∧ ∃ r : Int32, v = some (.int r)) := by
  refine zc_23 hP ?_
  have z1 : (1 : Int32).toInt = 1 := by decide
  have z0 : (0 : Int32).toInt = 0 := by decide
  unfold v_23_0 v_23_10 v_23_11 v_23_32 v_23_46
  refine ⟨fun n => ⟨fun _ => ⟨fun _ => ⟨Or.inl z0, rfl, fun _ _ _ => rfl, fun z => absurd z n, 0, rfl⟩, fun w => absurd z0 w⟩, fun z => absurd z n⟩, fun z5 => ⟨fun _ => ⟨fun n => absurd z5 n, fun _ => ⟨fun w => absurd z0 w, fun _ s1 hs1 x2 _ s3 hs3 s4 hs4 => ⟨Or.inl z0, ?_, fun b q hb => ?_, fun z => ?_, 0, rfl⟩⟩⟩, fun y => ⟨fun n => absurd z5 n, fun _ => ⟨fun _ => ⟨fun w => absurd w (by rw [z1]; decide), fun _ x1 _ s2 hs2 x3 hx3 s4 hs4 => ⟨Or.inr z1, ?_, fun b q hb => ?_, fun z => ?_, 1, rfl⟩⟩, fun w => absurd w (by rw [z1]; decide)⟩⟩⟩⟩
  · rw [hs4, zf_2, hs3, zf_2, hs1, zf_2]
  · rw [hs4, zf_1, if_neg (fun w => hb ⟨w.1, Or.inl w.2⟩), hs3, zf_1, if_neg (fun w => hb ⟨w.1, Or.inr (Or.inl w.2)⟩), hs1, zf_1, if_neg (fun w => hb ⟨w.1, Or.inr (Or.inr w.2)⟩)]
  · exfalso
    rw [hs4, zf_1, if_neg (by decide), hs3, zf_1, if_neg (by decide), hs1, zf_1, if_pos ⟨rfl, rfl⟩] at z
    exact absurd z (by decide)
  · rw [hs4, zf_2, hs2, zf_2]
  · rw [hs4, zf_1, if_neg (fun w => hb ⟨w.1, Or.inl w.2⟩), hs2, zf_1, if_neg (fun w => hb ⟨w.1, Or.inr (Or.inl w.2)⟩)]
  · have e2 : s2.1 105 9 = s.1 105 9 := by rw [hs2, zf_1, if_neg (by decide)]
    rw [e2] at hx3
    have hm : (s.1 105 9).toInt ≤ 2147483647 := Int.le_of_lt_add_one (Int32.toInt_lt _)
    have e3 := hx3 (by omega)
    refine ⟨z5, ?_, by omega⟩
    rw [hs4, zf_1, if_pos ⟨rfl, rfl⟩]
    exact e3
/-- steps are taken -/
theorem MCz_t (h1 : 0 ≤ a1.toInt) (hf : ∀ b q, ¬ (b = 105 ∧ (q = 9 ∨ q = 10 ∨ q = 13)) → u.1 b q = s.1 b q) (hk : (u.1 105 13).toInt = 5 → (s.1 105 13).toInt = 5 ∧ (u.1 105 9).toInt = (s.1 105 9).toInt - a1.toInt ∧ a1.toInt ≤ (s.1 105 9).toInt) (hM : MCz s) : MCz u := by
  unfold MCz at hM ⊢
  rw [hf 75 3 (by omega)]
  refine ⟨hM.1, hM.2.1, fun z => ?_⟩
  obtain ⟨k1, k2, k3⟩ := hk z
  have := hM.2.2 k1
  unfold PHq at this ⊢
  omega
theorem zw_21 (hP : P = 3 ∨ P = 39) (h1 : sq a1) (hM : MCz s) : Zt (d + 9) (wd2 P 21) 21 [.ref 105, .int a1] s (fun v s' => v = none ∧ MCz s') := by
  refine zc_21 hP ?_
  unfold v_21_0
  refine ⟨h1, fun s1 hs1 x2 _ s3 hs3 => ⟨rfl, ?_⟩⟩
  have f : ∀ b q, ¬ (b = 105 ∧ q = 7) → s3.1 b q = s.1 b q := fun b q hb => by rw [hs3, zf_1, if_neg hb, hs1, zt_1]
  exact MCz_e (f 75 3 (by decide)) (f 105 9 (by decide)) (fun z => by rw [← f 105 13 (by decide)]; exact z) hM
theorem zw_22 (hP : P = 3 ∨ P = 39) (hN : SNz s) (hM : MCz s) : Zt (d + 9) (wd2 P 22) 22 [.ref 105] s (fun v s' => MCz s' ∧ ∃ r : Int32, v = some (.int r) ∧ sq r) := by
  refine zc_22 hP ?_
  unfold v_22_0
  intro x1 _ s2 hs2
  have f : ∀ b q, ¬ (b = 105 ∧ q = 7) → s2.1 b q = s.1 b q := fun b q hb => by rw [hs2, zf_1, if_neg hb]
  exact ⟨MCz_e (f 75 3 (by decide)) (f 105 9 (by decide)) (fun z => by rw [← f 105 13 (by decide)]; exact z) hM, _, rfl, SN_q 106 (SNz_2 (by rw [hs2, zf_2]) hN) _⟩
/-- putType -/
theorem zw_25 (hP : P = 3 ∨ P = 39) (h1 : -1000 ≤ a1.toInt ∧ a1.toInt ≤ 500000000) (h5 : (s.1 105 13).toInt = 5) (hN : SNz s) (hM : MCz s) : Zt (d + 18) (wd2 P 25) 25 [.ref 105, .int a1] s (fun v s' => MCz s' ∧ ∃ r : Int32, v = some (.int r) ∧ sq r) := by
  have hM' := hM
  obtain ⟨m1, m2, m3⟩ := hM
  have m4 := m3 h5
  unfold PHq at m4
  refine zc_25 (d := d + 9) hP ?_
  unfold v_25_0
  refine Zt.imp (Zt.mo (d := 9) (by omega) (zw_24 (d := 0))) ?_
  rintro v1 s2 ⟨hs2, e, he, rfl⟩
  subst hs2
  refine ⟨e, he, rfl, ?_⟩
  refine Zt.imp (Zt.mo (d := 9) (by omega) ((zw_87 (d := 0) hP he ⟨h1.1, by omega⟩ rfl (by omega) (SN_E hN he)).sn hN)) ?_
  rintro v3 s4 ⟨⟨p1, p2, p3, x5, rfl, p4, p5⟩, N4⟩
  have q5 : sq x5 := by
    rcases p4 with w | w | w
    · exact ⟨by omega, by omega⟩
    · rw [w]
      exact ⟨h1.1, by omega⟩
    · exact ⟨by omega, by omega⟩
  have f13 : s4.1 105 13 = s2.1 105 13 := p2 105 13 (by decide)
  have f9 : s4.1 105 9 = s2.1 105 9 := p2 105 9 (by decide)
  unfold v_25_28
  refine ⟨x5, rfl, fun x0 => ⟨fun e5 => ⟨?_, x5, rfl, q5⟩, fun n5 => ?_⟩, fun _ s13 hs13 => ⟨?_, a1, rfl, h1.1, by omega⟩⟩
  · unfold MCz PHq
    rw [f13, f9]
    refine ⟨by omega, by omega, fun _ => ?_⟩
    rcases p5 with w | w <;> omega
  · refine Zt.imp (Zt.mo (d := 9) (by omega) (zw_83 (d := 0) hP (by have := q5.2; omega))) ?_
    rintro v6 s7 ⟨hs7, x8, rfl, r1, r2⟩
    subst hs7
    refine ⟨x8, rfl, fun x9 hx9 => ?_⟩
    have e9 := hx9 (by have := q5.1; omega)
    refine Zt.imp (Zt.mo (d := 9) (by omega) (zw_23 (d := 0) hP (by omega))) ?_
    rintro v10 s11 ⟨-, k2, k3, x12, rfl⟩
    refine ⟨x12, rfl, ?_, x5, rfl, q5⟩
    unfold MCz PHq
    rw [k2 75 3 (by omega)]
    refine ⟨by omega, by omega, fun z => ?_⟩
    obtain ⟨l1, l2, l3⟩ := k3 z
    rw [f9] at l2 l3
    omega
  · unfold MCz
    rw [hs13, zf_1, if_neg (by decide), zf_1, if_pos ⟨rfl, rfl⟩]
    exact ⟨by omega, by omega, fun z => absurd z (by decide)⟩
/-- makeValue -/
theorem zw_26 (hP : P = 3 ∨ P = 39) (h1 : -1000 ≤ a1.toInt ∧ a1.toInt ≤ 100000) (hN : SNz s) (hM : MCz s) : Zt (d + 18) (wd2 P 26) 26 [.ref 105, .int a1] s (fun v s' => v = none ∧ MCz s') := by
  refine zc_26 (d := d + 9) hP ?_
  unfold v_26_0
  refine Zt.imp (Zt.mo (d := 9) (by omega) ((zw_23 (d := 0) (a1 := 1) hP (by decide)).sb hN)) ?_
  rintro v1 s2 ⟨⟨k1, k2, k3, x3, rfl⟩, N2, B2⟩
  have M2 : MCz s2 := MCz_t (a1 := 1) (by decide) k2 k3 hM
  have h111 := B2.2 111 2 0 35000 (by decide +kernel) (by decide +kernel)
  refine ⟨x3, rfl, fun _ x4 hx4 x5 hx5 s6 hs6 => ?_, fun _ => ⟨rfl, M2⟩⟩
  have f : ∀ b q, ¬ (b = 105 ∧ q = 7) → s6.1 b q = s2.1 b q := fun b q hb => by rw [hs6, zf_1, if_neg hb]
  have M6 : MCz s6 := MCz_e (f 75 3 (by decide)) (f 105 9 (by decide)) (fun z => by rw [← f 105 13 (by decide)]; exact z) M2
  refine ⟨fun c1 c2 c3 u => c1 = a1 ∧ c2 = s2.1 111 2 ∧ 0 ≤ c3.toInt ∧ c3.toInt ≤ 100001 ∧ SNz u ∧ MCz u, fun _ _ c3 _ => (100001 - c3.toInt).toNat, ⟨rfl, rfl, by decide, by decide, SNz_2 (by rw [hs6, zf_2]) N2, M6⟩, ?_⟩
  rintro c1 c2 c3 u ⟨e1, e2, i1, i2, Nu, Mu⟩
  subst e1
  unfold v_26_19
  refine ⟨fun _ => ?_, fun y x3 _ => ⟨SN_q 106 Nu _, fun s4 hs4 x5 hx5 => ?_⟩⟩
  · refine Zt.imp (Zt.mo (d := 9) (by omega) (zw_21 (d := 0) hP (by rw [e2]; exact ⟨by omega, by omega⟩) Mu)) ?_
    rintro v1 s2' ⟨rfl, M2'⟩
    exact ⟨rfl, rfl, M2'⟩
  · have := hx5 (by omega)
    have g : ∀ b q, ¬ (b = 111 ∧ q = 2) → s4.1 b q = u.1 b q := fun b q hb => by rw [hs4, za_o hb]
    exact ⟨⟨rfl, e2, by omega, by omega, by rw [hs4]; exact SNz_za Nu (fun _ => SN_q 106 Nu _), MCz_e (g 75 3 (by decide)) (g 105 9 (by decide)) (fun z => by rw [← g 105 13 (by decide)]; exact z) Mu⟩, by dsimp only; omega⟩
/-- leave -/
theorem zw_29 (hP : P = 3 ∨ P = 39) (hN : SNz s) (hM : MCz s) : Zt (d + 18) (wd2 P 29) 29 [.ref 105] s (fun v s' => v = none ∧ MCz s') := by
  refine zc_29 (d := d + 9) hP ?_
  unfold v_29_0
  refine Zt.imp (Zt.mo (d := 9) (by omega) (zw_22 (d := 0) hP hN hM)) ?_
  rintro v1 s2 ⟨M2, x3, rfl, q3⟩
  refine ⟨x3, rfl, fun _ x4 _ x5 _ s6 hs6 x7 _ s8 hs8 x9 _ s10 hs10 => ?_, fun _ s13 hs13 s14 hs14 => ⟨rfl, ?_⟩⟩
  · have f : ∀ b q, ¬ (b = 105 ∧ (q = 6 ∨ q = 7 ∨ q = 8)) → s10.1 b q = s2.1 b q := fun b q hb => by
      rw [hs10, zf_1, if_neg (fun w => hb ⟨w.1, by omega⟩), hs8, zf_1, if_neg (fun w => hb ⟨w.1, by omega⟩), hs6, zf_1, if_neg (fun w => hb ⟨w.1, by omega⟩)]
    refine Zt.imp (Zt.mo (d := 9) (by omega) (zw_21 (d := 0) hP q3 (MCz_e (f 75 3 (by omega)) (f 105 9 (by omega)) (fun z => by rw [← f 105 13 (by omega)]; exact z) M2))) ?_
    rintro v11 s12 ⟨rfl, M12⟩
    exact ⟨rfl, rfl, M12⟩
  · refine MCz_e ?_ ?_ (fun z => ?_) M2
    · rw [hs14, zf_1, if_neg (by decide), hs13, zf_1, if_neg (by decide)]
    · rw [hs14, zf_1, if_neg (by decide), hs13, zf_1, if_neg (by decide)]
    · rw [hs14, zf_1, if_neg (by decide), hs13, zf_1, if_pos ⟨rfl, rfl⟩] at z
      exact absurd z (by decide)
/-- cast -/
theorem zw_28 (hP : P = 3 ∨ P = 39) (h1 : -1000 ≤ a1.toInt ∧ a1.toInt ≤ 100000) (h5 : (s.1 105 13).toInt = 5) (hN : SNz s) (hM : MCz s) : Zt (d + 36) (wd2 P 28) 28 [.ref 105, .int a1, .int a2] s (fun v s' => v = none ∧ MCz s') := by
  refine zc_28 (d := d + 27) hP ?_
  unfold v_28_0 v_28_44
  refine Zt.imp (Zt.mo (d := 18) (by omega) ((zw_25 (d := 0) hP ⟨h1.1, by omega⟩ h5 hN hM).sn hN)) ?_
  rintro v1 s2 ⟨⟨M2, x3, rfl, q3⟩, N2⟩
  refine ⟨x3, rfl, fun z5 x4 _ => ?_, fun _ => ⟨rfl, M2⟩⟩
  have ⟨t1, t2, _⟩ := M2
  refine Zt.imp (Zt.mo (d := 27) (by omega) ((zw_88 (d := 0) hP (sq_sn (SN_q 111 N2 _)) (sq_sn q3) rfl (by omega) (SN_E N2 (by decide)) (SN_E N2 (by decide))).sn N2)) ?_
  rintro v5 s6 ⟨⟨f6, -, -, x7, rfl⟩, N6⟩
  have M6 : MCz s6 := MCz_e (by rw [f6]) (by rw [f6]) (fun z => by rw [← f6]; exact z) M2
  refine ⟨x7, rfl, fun _ => ?_, fun _ s13 hs13 => ⟨rfl, ?_⟩⟩
  · refine Zt.imp (Zt.mo (d := 9) (by omega) (zw_23 (d := 0) (a1 := 1) hP (by decide))) ?_
    rintro v8 s9 ⟨-, k2, k3, x10, rfl⟩
    have M9 : MCz s9 := MCz_t (a1 := 1) (by decide) k2 k3 M6
    refine ⟨x10, rfl, fun _ => ⟨rfl, M9⟩, fun _ => ⟨fun _ => ⟨rfl, M9⟩, fun _ s11 hs11 s12 hs12 => ⟨rfl, ?_⟩⟩⟩
    refine MCz_e ?_ ?_ (fun z => ?_) M9
    · rw [hs12, zf_1, if_neg (by decide), hs11, zf_1, if_neg (by decide)]
    · rw [hs12, zf_1, if_neg (by decide), hs11, zf_1, if_neg (by decide)]
    · rw [hs12, zf_1, if_neg (by decide), hs11, zf_1, if_pos ⟨rfl, rfl⟩] at z
      exact absurd z (by decide)
  · refine MCz_e ?_ ?_ (fun z => ?_) M6
    · rw [hs13, zf_1, if_neg (by decide)]
    · rw [hs13, zf_1, if_neg (by decide)]
    · rw [hs13, zf_1, if_pos ⟨rfl, rfl⟩] at z
      exact absurd z (by decide)
set_option maxHeartbeats 1000000 in
/-- call -/
theorem zw_27 (hP : P = 3 ∨ P = 39) (h5 : (s.1 105 13).toInt = 5) (hN : SNz s) (hM : MCz s) : Zt (d + 27) (wd2 P 27) 27 [.ref 105, .int a1, .int a2] s (fun v s' => v = none ∧ MCz s') := by
  refine zc_27 (d := d + 18) hP ?_
  unfold v_27_0
  intro x1 _ x2 _ x3 _ x4 _
  refine Zt.imp (Zt.mo (d := 9) (by omega) (zw_24 (d := 0))) ?_
  rintro v5 s6 ⟨hs6, e, he, rfl⟩
  subst hs6
  refine ⟨e, he, rfl, ?_⟩
  refine Zt.imp (Zt.mo (d := 18) (by omega) ((zw_86 (d := 0) hP he (sq_sn (SN_q 111 hN _)) ⟨by decide, by decide⟩ (SN_E hN he)).sn hN)) ?_
  rintro v7 s8 ⟨⟨rfl, f8, -, -⟩, N8⟩
  refine ⟨rfl, fun x9 _ x10 _ => ?_⟩
  have M8 : MCz s8 := MCz_e (by rw [f8]) (by rw [f8]) (fun z => by rw [← f8]; exact z) hM
  obtain ⟨tc, htc⟩ : ∃ tc, tc = zg s8 (P + 34) x10 := ⟨_, rfl⟩
  have c9 := SN_c hP N8 x9
  have c10 := SN_c hP N8 x10
  rw [← htc] at c10 ⊢
  refine ⟨fun _ _ _ _ b6 b7 b8 u => b7 = tc ∧ 0 ≤ b8.toInt ∧ b8.toInt ≤ 100000 ∧ -1000 ≤ b6.toInt ∧ b6.toInt ≤ 100000 + 4000 * b8.toInt ∧ SNz u ∧ MCz u, fun _ _ _ _ _ _ b8 _ => (100000 - b8.toInt).toNat, ⟨rfl, by decide, by decide, c9.1, by rw [show (0 : Int32).toInt = 0 by decide]; omega, N8, M8⟩, ?_⟩
  rintro b1 b2 b3 b4 b6 b7 b8 u ⟨e7, i1, i2, i3, i4, Nu, Mu⟩
  subst e7
  have fin : v_27_77 (fun j => Zt (d + 18 + 8) (wd2 P j) j) P e b1 b2 b3 b4 b6 b7 b8 u (fun v s' => v = none ∧ MCz s') := by
    unfold v_27_77
    refine Zt.imp (Zt.mo (d := 9) (by omega) (zw_23 (d := 0) (a1 := 1) hP (by decide))) ?_
    rintro v1 s2 ⟨-, k2, k3, x3, rfl⟩
    have M2 : MCz s2 := MCz_t (a1 := 1) (by decide) k2 k3 Mu
    refine ⟨x3, rfl, fun _ => ⟨fun _ => ?_, fun _ s18 hs18 => ⟨rfl, ?_⟩⟩, fun _ => ⟨rfl, M2⟩⟩
    · refine Zt.imp (Zt.mo (d := 9) (by omega) (zw_53 (d := 0) hP)) ?_
      rintro v4 s5 ⟨hs5, x6, rfl, -⟩
      subst hs5
      refine ⟨x6, rfl, fun x7 _ s8 hs8 x9 _ s10 hs10 x11 _ s12 hs12 x13 _ x14 _ s15 hs15 s17 hs17 => ⟨rfl, ?_⟩⟩
      have f : ∀ b q, ¬ (b = 105 ∧ (q = 6 ∨ q = 8 ∨ q = 11)) → s17.1 b q = s5.1 b q := fun b q hb => by
        rw [hs17, zf_1, if_neg (fun w => hb ⟨w.1, by omega⟩), hs15, zt_1, hs12, zt_1, hs10, zf_1, if_neg (fun w => hb ⟨w.1, by omega⟩), hs8, zf_1, if_neg (fun w => hb ⟨w.1, by omega⟩)]
      exact MCz_e (f 75 3 (by omega)) (f 105 9 (by omega)) (fun z => by rw [← f 105 13 (by omega)]; exact z) M2
    · refine MCz_e ?_ ?_ (fun z => ?_) M2
      · rw [hs18, zf_1, if_neg (by decide)]
      · rw [hs18, zf_1, if_neg (by decide)]
      · rw [hs18, zf_1, if_pos ⟨rfl, rfl⟩] at z
        exact absurd z (by decide)
  unfold v_27_53
  refine ⟨fun _ => fin, fun y => ⟨fun _ => fin, fun z x1 _ => ?_⟩⟩
  refine Zt.imp (Zt.mo (d := 18) (by omega) ((zw_25 (d := 0) hP (by omega) z Nu Mu).sn Nu)) ?_
  rintro v2 s3 ⟨⟨M3, x4, rfl, q4⟩, N3⟩
  refine ⟨x4, rfl, ?_⟩
  refine Zt.imp (Zt.mo (d := 18) (by omega) ((zw_85 (d := 0) hP he (sq_sn q4)).sn N3)) ?_
  rintro v5 s6 ⟨⟨rfl, f6, -⟩, N6⟩
  refine ⟨rfl, ?_⟩
  refine Zt.imp (Zt.mo (d := 9) (by omega) (zw_83 (d := 0) hP (by omega))) ?_
  rintro v7 s8' ⟨hs8, x9', rfl, r1, r2⟩
  subst hs8
  refine ⟨x9', rfl, fun x10' hx10 => ?_⟩
  have := hx10 (by omega)
  exact ⟨⟨rfl, by omega, by omega, by omega, by omega, N6, MCz_e (by rw [f6]) (by rw [f6]) (fun z => by rw [← f6]; exact z) M3⟩, by dsimp only; omega⟩
/-- step -/
theorem zw_20 (hP : P = 3 ∨ P = 39) (h5 : (s.1 105 13).toInt = 5) (hN : SNz s) (hM : MCz s) : Zt (d + 45) (wd2 P 20) 20 [.ref 105, .int a1] s (fun v s' => v = none ∧ MCz s') := by
  refine zc_20 (d := d + 36) hP ?_
  unfold v_20_0 v_20_83
  refine fun x1 _ x2 _ => ⟨fun _ => ?_, fun _ x5 _ x6 _ x7 _ => ?_, fun _ => ?_, fun _ x15 _ => ?_, fun _ => ?_, fun _ => ?_, fun _ x30 _ => ?_⟩
  · refine Zt.imp (Zt.mo (d := 18) (by omega) (zw_29 (d := 0) hP hN hM)) ?_
    rintro v3 s4 ⟨rfl, M4⟩
    exact ⟨rfl, rfl, M4⟩
  · refine Zt.imp (Zt.mo (d := 9) (by omega) (zw_21 (d := 0) hP (SN_q 106 hN _) hM)) ?_
    rintro v3 s4 ⟨rfl, M4⟩
    exact ⟨rfl, rfl, M4⟩
  · have c := SN_c hP hN x1
    refine Zt.imp (Zt.mo (d := 18) (by omega) (zw_25 (d := 0) hP ⟨c.1, by omega⟩ h5 hN hM)) ?_
    rintro v3 s4 ⟨M4, x12, rfl, q12⟩
    refine ⟨x12, rfl, ?_⟩
    refine Zt.imp (Zt.mo (d := 9) (by omega) (zw_21 (d := 0) hP q12 M4)) ?_
    rintro v13 s14 ⟨rfl, M14⟩
    exact ⟨rfl, rfl, M14⟩
  · refine Zt.imp (Zt.mo (d := 18) (by omega) (zw_26 (d := 0) hP (SN_c hP hN _) hN hM)) ?_
    rintro v3 s4 ⟨rfl, M4⟩
    exact ⟨rfl, rfl, M4⟩
  · refine Zt.imp (Zt.mo (d := 9) (by omega) ((zw_23 (d := 0) (a1 := 1) hP (by decide)).sn hN)) ?_
    rintro v18 s19 ⟨⟨-, k2, k3, x20, rfl⟩, N19⟩
    have M19 : MCz s19 := MCz_t (a1 := 1) (by decide) k2 k3 hM
    refine ⟨x20, rfl, fun _ => ⟨rfl, M19⟩, fun _ => ?_⟩
    refine Zt.imp (Zt.mo (d := 9) (by omega) ((zw_22 (d := 0) hP N19 M19).sn N19)) ?_
    rintro v21 s22 ⟨⟨M22, x23, rfl, -⟩, N22⟩
    refine ⟨x23, rfl, fun x24 _ x25 _ => ?_⟩
    refine Zt.imp (Zt.mo (d := 9) (by omega) (zw_21 (d := 0) hP (SN_q 111 N22 _) M22)) ?_
    rintro v3 s4 ⟨rfl, M4⟩
    exact ⟨rfl, rfl, M4⟩
  · refine Zt.imp (Zt.mo (d := 27) (by omega) (zw_27 (d := 0) hP h5 hN hM)) ?_
    rintro v3 s4 ⟨rfl, M4⟩
    exact ⟨rfl, rfl, M4⟩
  · refine Zt.imp (Zt.mo (d := 36) (by omega) (zw_28 (d := 0) hP (SN_c hP hN _) h5 hN hM)) ?_
    rintro v3 s4 ⟨rfl, M4⟩
    exact ⟨rfl, rfl, M4⟩
/-- go -/
theorem zw_19 (hP : P = 3 ∨ P = 39) (hN : SNz s) (hM : MCz s) : Zt (d + 54) (wd2 P 19) 19 [.ref 105] s (fun v _ => v = none) := by
  refine zc_19 (d := d + 45) hP ?_
  unfold v_19_0
  refine ⟨fun c1 u => 0 ≤ c1.toInt ∧ c1.toInt ≤ 1000000 ∧ SNz u ∧ MCz u, fun c1 _ => (1000000 - c1.toInt).toNat, ⟨by decide, by decide, hN, hM⟩, ?_⟩
  rintro c1 u ⟨i1, i2, Nu, Mu⟩
  unfold v_19_2 v_19_25
  refine ⟨fun _ => rfl, fun y => ⟨fun _ => rfl, fun z x1 _ x2 _ s3 hs3 => ?_⟩⟩
  have f : ∀ b q, ¬ (b = 105 ∧ q = 6) → s3.1 b q = u.1 b q := fun b q hb => by rw [hs3, zf_1, if_neg hb]
  have N3 : SNz s3 := SNz_2 (by rw [hs3, zf_2]) Nu
  refine Zt.imp (Zt.mo (d := 45) (by omega) ((zw_20 (d := 0) hP (by rw [f 105 13 (by decide)]; exact z) N3 (MCz_e (f 75 3 (by decide)) (f 105 9 (by decide)) (fun z => by rw [← f 105 13 (by decide)]; exact z) Mu)).sn N3)) ?_
  rintro v4 s5 ⟨⟨rfl, M5⟩, N5⟩
  refine ⟨rfl, fun x6 hx6 => ?_⟩
  have := hx6 (by omega)
  exact ⟨⟨by omega, by omega, N5, M5⟩, by dsimp only; omega⟩
end ZZZJ
