/-! ===== isMade ===== -/
section MD
variable {nb n W : Nat} {s s2 s' : yS}
/-- the rows that were made can be looked at -/
def RLk (s : yS) : Prop := ∃ R : Nat, (s.1 112).toInt = (R : Int) ∧ R ≤ 150 ∧ ∀ i, i < R → ∃ p l : Nat, (s.2.1 282 i).toInt = (p : Int) ∧ (s.2.1 283 i).toInt = (l : Int) ∧ p + l ≤ 200000
theorem tc_no {q i : Nat} (h : q ∈ [279, 280, 281, 282, 283]) : ¬ tc 2 q i := by
  have e : bl q = 0 ∧ ¬ q = 264 ∧ q ∉ [265, 266, 267, 268, 269] := by revert q; decide
  rintro (w | w | w)
  · rw [e.1] at w
    omega
  · exact e.2.1 w.1
  · exact e.2.2 w
theorem RLk_if (h : RLk s) (hF : IF s s') : RLk s' := by
  obtain ⟨R, h1, h2, h3⟩ := h
  refine ⟨R, by rw [hF.2.1 112 (by decide)]; exact h1, h2, fun i hi => ?_⟩
  rw [hF.1 282 i (tc_no (by decide)), hF.1 283 i (tc_no (by decide))]
  exact h3 i hi
theorem m22 {d y1 h1 : Nat} {a1 : Int32} {t : yS} (hnb : nb < 2) (hI : IF s t) (hG : ¬ (s.1 90).toInt = 0 → GPx nb s ∧ (s.1 29).toInt = (nb : Int) ∧ (s.1 75).toInt = (nb : Int)) (hR : 0 ≤ (s.1 109).toInt → RLk s) (hL : Lx 2 n W t) (h8 : 0 ≤ (t.1 8).toInt ∧ (t.1 8).toInt ≤ 70000) (h65 : (t.1 65).toInt = 8210) (t2 : (t.1 2).toInt = 0) (hY : (t.1 8).toInt = 0 → a1.toInt = (y1 : Int) ∧ 8004 ≤ y1 ∧ h1 ≤ 10764 ∧ isY 2 n t 11 h1 y1) : w_260_22 (Tot (d + 20)) a1 t (fun v s' => ∃ r : Int32, v = some (.int r) ∧ -3 ≤ r.toInt ∧ r.toInt ≤ 1 ∧ IF s s' ∧ (s'.1 2).toInt = 0) := by
  have e90 : t.1 90 = s.1 90 := hI.2.1 90 (by decide)
  unfold w_260_22 w_260_31 w_260_40
  refine ⟨fun _ => ⟨-1, rfl, by decide, by decide, hI, t2⟩, fun h90 => ⟨by omega, fun x1 hx1 => ⟨fun hx => ⟨fun _ => ⟨-2, rfl, by decide, by decide, hI, t2⟩, fun hle => ?_⟩, fun _ => ⟨-1, rfl, by decide, by decide, hI, t2⟩⟩⟩⟩
  rw [e90] at h90
  obtain ⟨k1, k2, k3⟩ := hG h90
  obtain ⟨g1, g3, g5, g6⟩ := hY (by omega)
  have l1 := isY_lt g6
  obtain ⟨own, n2, W2, N, T, F, H, S0, G, S, O, m1, m2, m3, m4, m5, m6, m7, m8, -⟩ := GPx_if hnb k1 hI k3
  have hQ : QW own nb n2 N T F H S0 G n W t := ⟨m1, hL, h8, by rw [hI.2.1 29 (by decide)]; exact k2, m8, m7⟩
  refine Tot.imp (Tot.mono (by omega) (s_234 (S := 8210) hQ g6 g3 (by omega) h65 (by omega) (by omega) g1)) ?_
  rintro v u ⟨x4, rfl, uF, uQ, S1, q1, q2, q3, q4⟩
  have u2 : (u.1 2).toInt = 0 := by rw [uF.1 2 (by decide)]; exact t2
  have uI := IF_tr hI (IF_qf uF g3 (by omega) (by omega))
  refine ⟨x4, rfl, fun hx4 => ⟨fun h109 => ?_, fun _ => ⟨-3, rfl, by decide, by decide, uI, u2⟩⟩, fun _ => ⟨-2, rfl, by decide, by decide, uI, u2⟩⟩
  obtain ⟨-, -, n1, -⟩ := q4 hx4
  obtain ⟨n4, n5, n6, n7, n8⟩ := n1
  rw [uI.2.1 109 (by decide)] at h109
  obtain ⟨R, r1, r2, r3⟩ := RLk_if (hR h109) uI
  refine ⟨fun z1 z2 z3 w => w = u ∧ z1 = a1 ∧ ∃ i : Nat, z3.toInt = (i : Int) ∧ i ≤ R, fun _ _ z3 _ => (200 - z3.toInt).toNat, ⟨rfl, rfl, 0, rfl, by omega⟩, ?_⟩
  rintro z1 z2 z3 w ⟨e0, e1, i, i1, i2⟩
  have e0 := e0.symm
  have e1 := e1.symm
  subst e0 e1
  have nxt : ∀ t0 : Int32, i < R → w_260_84 (Tot (d + 20)) (fun z1' z2' z3' w' => (w' = u ∧ z1' = a1 ∧ ∃ i : Nat, z3'.toInt = (i : Int) ∧ i ≤ R) ∧ (200 - z3'.toInt).toNat < (200 - z3.toInt).toNat) a1 z2 z3 t0 u (fun v s' => ∃ r : Int32, v = some (.int r) ∧ -3 ≤ r.toInt ∧ r.toInt ≤ 1 ∧ IF s s' ∧ (s'.1 2).toInt = 0) := by
    intro t0 hi
    unfold w_260_84
    exact ⟨by omega, fun x1 hx1 => ⟨⟨rfl, rfl, i + 1, by omega, by omega⟩, by omega⟩⟩
  unfold w_260_51 w_260_92 w_260_81 w_260_83
  refine ⟨fun _ => ⟨fun _ => ⟨0, rfl, by decide, by decide, uI, u2⟩, fun _ => ⟨1, rfl, by decide, by decide, uI, u2⟩⟩, fun hmore => ⟨fun _ => nxt 1 (by omega), fun _ => ⟨by omega, fun _ => nxt 0 (by omega), fun _ => ⟨by omega, by omega, by omega, by omega, ?_⟩⟩⟩⟩
  obtain ⟨p, l, o1, o2, o3⟩ := r3 i (by omega)
  rw [show z3.toInt.toNat = i by omega, show a1.toInt.toNat = y1 by omega]
  refine Tot.imp (Tot.mono (by omega) (s_187 (d := 0) o1 o2 n5 n6 o3 (by omega) uI.2.2.2.1)) ?_
  rintro v w ⟨es, x3, rfl, -⟩
  have es := es.symm
  subst es
  exact ⟨x3, rfl, fun _ => nxt 0 (by omega), fun _ => nxt 1 (by omega)⟩
theorem s_260 (hnb : nb < 2) (hG : ¬ (s.1 90).toInt = 0 → GPx nb s ∧ (s.1 29).toInt = (nb : Int) ∧ (s.1 75).toInt = (nb : Int)) (hR : 0 ≤ (s.1 109).toInt → RLk s) (ht : 0 ≤ (s.1 2).toInt ∧ (s.1 2).toInt ≤ 4000) (hT : TYN s) (hC : GC s) : Tot 31 260 [.ref 213] s (fun v s' => ∃ r : Int32, v = some (.int r) ∧ -3 ≤ r.toInt ∧ r.toInt ≤ 1 ∧ IF s s' ∧ (s'.1 2).toInt = 0) := by
  refine t_260 ?_
  unfold w_260_0
  rintro s1 rfl
  refine Tot.imp (Tot.mono (by omega) (s_235 (d := 0) (s := sf s 0 0) ht)) ?_
  rintro v s2 ⟨rfl, a1, a2, a3, a4, a5, a6, a7, n, W, a8, a9⟩
  refine ⟨rfl, ?_⟩
  have hn := a8.2.1
  have I2 : IF s s2 := by
    refine ⟨BKF_tr (s' := sf s 0 0) (BKF_2 rfl) (BKF_cf a7), fun k hk => ?_, fun i _ => by rw [a7.1 264 (by decide)]; rfl, fun i => by rw [a7.1 264 (by decide)]; exact hT i, fun i => by rw [a7.1 265 (by decide)]; exact hC i, fun q i hi => a7.2.2.2 q i hi⟩
    rw [a6 k (fun w => hk ((show ∀ k ∈ [2, 3, 7, 8, 9, 26, 65], k ∈ iK by decide) k w)), sf_1, if_neg (fun w => hk (by rw [w]; decide))]
  have Q2 : QR n W s2 s2 0 := ⟨a8, a9, Fr_rf, by omega, by omega, fun _ => by omega⟩
  have q65 : ∀ t, Fr 8004 s2 t → (t.1 65).toInt = 8210 ∧ (t.1 2).toInt = 0 := fun t hF => ⟨by rw [hF.1 65 (by decide)]; exact a5, by rw [hF.1 2 (by decide)]; exact a3⟩
  refine Tot.imp (Tot.mono (by omega) (s_233 Q2 (by omega) a2)) ?_
  rintro v s4 ⟨x6, rfl, Q4, F4, l4, k4⟩
  obtain ⟨b1, b2, b3, b4, b5, b6⟩ := id Q4
  rw [a4] at l4 k4
  refine ⟨x6, rfl, fun hne => ?_, fun h0 => ?_⟩
  · exact m22 (d := 10) (y1 := 0) (h1 := 0) hnb (IF_fr I2 b3) hG hR b1 ⟨b2.1, b2.2.1⟩ (q65 s4 b3).1 (q65 s4 b3).2 (fun w => absurd w hne)
  · obtain ⟨k5, k6⟩ := k4 h0
    have e4 : (8004 : Int).toNat = 8004 := rfl
    rw [e4] at k6
    have r7 := b2.2.2.2.2 h0
    refine ⟨by omega, fun _ => ?_, fun _ => ?_⟩
    · exact m22 (d := 10) (y1 := 8004) (h1 := (s4.1 26).toInt.toNat) hnb (IF_fr I2 b3) hG hR b1 ⟨b2.1, b2.2.1⟩ (q65 s4 b3).1 (q65 s4 b3).2 (fun _ => ⟨k5, by omega, by omega, k6⟩)
    · refine Tot.imp (Tot.mono (by omega) (s_163 (d := 0) b1 (by decide) (fun _ => by omega))) ?_
      rintro v f ⟨rfl, -, hf⟩
      obtain ⟨y, y1, y2, rfl⟩ := hf h0
      refine ⟨rfl, ?_⟩
      exact m22 (d := 10) (y1 := 0) (h1 := 0) hnb (IF_fr I2 (Fr_sf b3 (by decide))) hG hR b1 ⟨by show 0 ≤ y.toInt; omega, by show y.toInt ≤ 70000; omega⟩ (q65 s4 b3).1 (q65 s4 b3).2 (fun e => absurd e (by show ¬ y.toInt = 0; omega))
end MD
