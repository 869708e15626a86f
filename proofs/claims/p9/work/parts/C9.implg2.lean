/-! ===== implementing: whole ===== -/
section IM2
variable {nb n W : Nat} {s s2 s' : yS}
theorem IF_fr {t : yS} (h : IF s s2) (hF : Fr 8004 s2 t) : IF s t := by
  have r64 : t.2.1 264 = s2.2.1 264 := Fr_row hF (by decide)
  have r65 : t.2.1 265 = s2.2.1 265 := Fr_row hF (by decide)
  exact ⟨BKF_tr h.1 (BKF_fr2 hF), fun k hk => (hF.1 k (fun w => hk ((show ∀ k ∈ [7, 8, 26, 27, 28], k ∈ iK by decide) k w))).trans (h.2.1 k hk), fun i hi => by rw [r64]; exact h.2.2.1 i hi, fun i => by rw [r64]; exact h.2.2.2.1 i, fun i => by rw [r65]; exact h.2.2.2.2.1 i, fun q i hi => by rw [hF.2.2]; exact h.2.2.2.2.2 q i hi⟩
theorem s_236 (hnb : nb < 2) (hG : ¬ (s.1 90).toInt = 0 → GPx nb s ∧ (s.1 29).toInt = (nb : Int) ∧ (s.1 75).toInt = (nb : Int)) (ht : 0 ≤ (s.1 2).toInt ∧ (s.1 2).toInt ≤ 4000) (hT : TYN s) (hC : GC s) : Tot 31 236 [.ref 213] s (fun v s' => ∃ r : Int32, v = some (.int r) ∧ -2 ≤ r.toInt ∧ r.toInt ≤ 1 ∧ IF s s' ∧ (s'.1 2).toInt = 0) := by
  refine t_236 ?_
  unfold w_236_0
  rintro s1 rfl
  refine Tot.imp (Tot.mono (by omega) (s_235 (d := 0) (s := sf s 0 0) ht)) ?_
  rintro v s2 ⟨rfl, a1, a2, a3, a4, a5, a6, a7, n, W, a8, a9⟩
  refine ⟨rfl, ?_⟩
  have hn := a8.2.1
  have I2 : IF s s2 := by
    refine ⟨BKF_tr (s' := sf s 0 0) (BKF_2 rfl) (BKF_cf a7), fun k hk => ?_, fun i _ => by rw [a7.1 264 (by decide)]; rfl, fun i => by rw [a7.1 264 (by decide)]; exact hT i, fun i => by rw [a7.1 265 (by decide)]; exact hC i, fun q i hi => a7.2.2.2 q i hi⟩
    rw [a6 k (fun w => hk ((show ∀ k ∈ [2, 3, 7, 8, 9, 26, 65], k ∈ iK by decide) k w)), sf_1, if_neg (fun w => hk (by rw [w]; decide))]
  have Q2 : QR n W s2 s2 0 := ⟨a8, a9, Fr_rf, by omega, by omega, fun _ => by omega⟩
  have q65 : ∀ t, Fr 8004 s2 t → (t.1 65).toInt = 8210 ∧ (t.1 2).toInt = 0 := fun t hF => ⟨by rw [hF.1 65 (by decide)]; exact a5, by rw [hF.1 2 (by decide)]; exact a3⟩
  -- once there is a fault
  have vac : ∀ (t : yS) (b1 b2 : Int32), Lx 2 n W t → Rd 2 n t → Fr 8004 s2 t → ¬ (t.1 8).toInt = 0 → w_236_21 (Tot 30) b1 b2 t (fun v s' => ∃ r : Int32, v = some (.int r) ∧ -2 ≤ r.toInt ∧ r.toInt ≤ 1 ∧ IF s s' ∧ (s'.1 2).toInt = 0) := by
    intro t b1 b2 hL hR hF hne
    unfold w_236_21
    refine ⟨fun _ => ?_, fun w => absurd w hne⟩
    exact i36 (d := 10) (y1 := 0) (h1 := 0) (y2 := 0) (h2 := 0) hnb (IF_fr I2 hF) hG hL ⟨hR.1, hR.2.1⟩ (q65 t hF).1 (q65 t hF).2 (fun w => absurd w hne)
  refine Tot.imp (Tot.mono (by omega) (s_233 Q2 (by omega) a2)) ?_
  rintro v s4 ⟨x6, rfl, Q4, F4, l4, k4⟩
  obtain ⟨b1, b2, b3, b4, b5, b6⟩ := id Q4
  rw [a4] at l4 k4
  refine ⟨x6, rfl, fun hne => ?_, fun h0 => ?_⟩
  · unfold w_236_14
    exact ⟨fun _ => vac s4 x6 (-1) b1 b2 b3 hne, fun w => absurd w hne⟩
  · obtain ⟨k5, k6⟩ := k4 h0
    have e4 : (8004 : Int).toNat = 8004 := rfl
    rw [e4] at k6
    refine Tot.imp (Tot.mono (by omega) (s_167 (d := 0) b1 b2)) ?_
    rintro v s7 ⟨rfl, h7⟩
    refine ⟨rfl, ?_⟩
    rcases h7 with ⟨-, x, hx, hlt, rfl⟩ | ⟨-, -, h7⟩
    · have R7 : Rd 2 n (sf s4 7 x) := Rd_at b2 hx hlt (by omega) hn
      have F7 : Fr 8004 s2 (sf s4 7 x) := Fr_sf b3 (by decide)
      have L7 : Lx 2 n W (sf s4 7 x) := b1
      have z7 : ((sf s4 7 x).1 7).toInt = (s4.1 7).toInt + 1 := hx
      have d4 := b6 h0
      have Q7 : QR n W s2 (sf s4 7 x) 0 := ⟨L7, R7, F7, b4, b5, fun _ => by
        show 3 * ((s4.1 26).toInt - 8004) - 2 * (x.toInt - 8004) ≤ 0
        omega⟩
      have Y7 : isY 2 n (sf s4 7 x) 11 (s4.1 26).toInt.toNat 8004 := isY_sf k6
      have e26 : (sf s4 7 x).1 26 = s4.1 26 := rfl
      have e8 : (sf s4 7 x).1 8 = s4.1 8 := rfl
      obtain ⟨u, hu⟩ : ∃ u, u = sf s4 7 x := ⟨_, rfl⟩
      rw [← hu] at R7 F7 L7 Q7 Y7 e26 e8 ⊢
      clear hu
      unfold w_236_14
      refine ⟨fun w => absurd (by rw [e8]; exact h0) w, fun u0 => ?_⟩
      refine Tot.imp (Tot.mono (by omega) (s_233 Q7 (by omega) u0)) ?_
      rintro v w ⟨x3, rfl, Qw, Fw, lw, kw⟩
      obtain ⟨c1, c2, c3, c4, c5, c6⟩ := id Qw
      refine ⟨x3, rfl, ?_⟩
      by_cases hw : (w.1 8).toInt = 0
      · obtain ⟨m5, m6⟩ := kw hw
        have r7 := c2.2.2.2.2 hw
        have Yw : isY 2 n w 11 (s4.1 26).toInt.toNat 8004 := isY_eq (Fr_row Fw (by decide)) (Fr_row Fw (by decide)) 11 _ _ (fun y _ y2 => by
          have hy : y < (u.1 26).toInt.toNat := by rw [e26]; exact y2
          exact ⟨Fr_at Fw hy, Fr_at Fw hy, Fr_at Fw hy, fun _ => Fr_at Fw hy, fun _ => Fr_at Fw hy⟩) Y7
        unfold w_236_21
        refine ⟨fun w => absurd hw w, fun _ => ⟨by omega, fun _ => ?_, fun _ => ?_⟩⟩
        · rw [e26] at m5 m6
          exact i36 (d := 10) (y1 := 8004) (h1 := (s4.1 26).toInt.toNat) (y2 := (s4.1 26).toInt.toNat) (h2 := (w.1 26).toInt.toNat) hnb (IF_fr I2 c3) hG c1 ⟨c2.1, c2.2.1⟩ (q65 w c3).1 (q65 w c3).2 (fun _ => ⟨k5, by omega, by omega, Nat.le_refl _, by omega, Yw, m6⟩)
        · refine Tot.imp (Tot.mono (by omega) (s_163 (d := 0) c1 (by decide) (fun _ => by omega))) ?_
          rintro v f ⟨rfl, -, hf⟩
          obtain ⟨y, y1, y2, rfl⟩ := hf hw
          refine ⟨rfl, ?_⟩
          exact i36 (d := 10) (y1 := 0) (h1 := 0) (y2 := 0) (h2 := 0) hnb (IF_fr I2 (Fr_sf c3 (by decide))) hG c1 ⟨by show 0 ≤ y.toInt; omega, by show y.toInt ≤ 70000; omega⟩ (q65 w c3).1 (q65 w c3).2 (fun e => absurd e (by show ¬ y.toInt = 0; omega))
      · exact vac w x6 x3 c1 c2 c3 hw
    · obtain ⟨x, h1, h2, rfl⟩ := h7 h0
      have hne : ¬ ((sf s4 8 x).1 8).toInt = 0 := by show ¬ x.toInt = 0; omega
      unfold w_236_14
      exact ⟨fun _ => vac (sf s4 8 x) x6 (-1) b1 (Rd_ft b2 h1 h2) (Fr_sf b3 (by decide)) hne, fun w => absurd w hne⟩
end IM2
