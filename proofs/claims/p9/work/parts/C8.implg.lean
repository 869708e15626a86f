/-! ===== implementing ===== -/
section IM
variable {own : Nat → Nat × Nat} {nb n2 N T F H S0 n W : Nat} {G : PG} {s s2 s' : yS}
theorem BKF_fr2 (h : Fr 8004 s s') : BKF 2 s s' := by
  intro q i hn
  refine h.2.1 q i (fun w => hn (Or.inl ?_))
  rw [(bl_nd q w.2.2).1]
  have := w.2.1
  omega
/-- reading a question's TYPES -/
def QR (n W : Nat) (s2 s : yS) (δ : Int) : Prop := Lx 2 n W s ∧ Rd 2 n s ∧ Fr 8004 s2 s ∧ 8004 ≤ (s.1 26).toInt ∧ (s.1 26).toInt ≤ 10764 ∧ ((s.1 8).toInt = 0 → 3 * ((s.1 26).toInt - 8004) - 2 * ((s.1 7).toInt - 8004) ≤ δ)
theorem s_233 {δ : Int} (hQ : QR n W s2 s δ) (hδ : δ ≤ 20) (h0 : (s.1 8).toInt = 0) : Tot 26 233 [.ref 213] s (fun v s' => ∃ r : Int32, v = some (.int r) ∧ QR n W s2 s' (δ + 1) ∧ Fr (s.1 26).toInt.toNat s s' ∧ (s.1 26).toInt + 1 ≤ (s'.1 26).toInt ∧ ((s'.1 8).toInt = 0 → r.toInt = (s.1 26).toInt ∧ isY 2 n s' 11 (s'.1 26).toInt.toNat (s.1 26).toInt.toNat)) := by
  obtain ⟨q1, q2, q3, q4, q5, q6⟩ := hQ
  have hn := q1.2.1
  have hd := q6 h0
  have hR7 := q2.2.2.2.2 h0
  refine t_233 ?_
  unfold w_233_0
  rintro s1 rfl
  have f1 : Fr (s.1 26).toInt.toNat s (sf s 27 0) := Fr_sf Fr_rf (by decide)
  refine Tot.imp (s_173 (b := 2) (n := n) (W := W) 10 (sf s 27 0) (Fr_Lx f1 q1) q2 h0 (by show (0 : Int32).toInt = _; decide) (by omega) (by show 4002 * ((2 : Nat) : Int) ≤ (s.1 26).toInt; omega) (by show 3 * ((s.1 26).toInt - 4002 * ((2 : Nat) : Int)) - 2 * ((s.1 7).toInt - 4002 * ((2 : Nat) : Int)) ≤ 60; omega)) ?_
  rintro v t ⟨rfl, k1, k2, k3, k4, k5, k6⟩
  have e26 : (sf s 27 0).1 26 = s.1 26 := rfl
  have e7 : (sf s 27 0).1 7 = s.1 7 := rfl
  rw [e26] at k2 k4 k5 ⊢
  rw [e7] at k5
  have dv : (s.1 26).toInt.toNat / 4002 = 2 := by omega
  have f2 : Fr (s.1 26).toInt.toNat s t := Fr_tr f1 k2 ⟨Nat.le_refl _, rfl⟩
  have f3 : Fr 8004 s2 t := Fr_tr q3 f2 ⟨by omega, by omega⟩
  have hR8 := k1.2.2.2.2
  have hQ' : QR n W s2 t (δ + 1) := by
    refine ⟨Fr_Lx f2 q1, k1, f3, by omega, ?_, fun h => ?_⟩
    · by_cases h : (t.1 8).toInt = 0
      · have := (k5 h).1
        have := hR8 h
        omega
      · have := (k6 h).1
        omega
    · have := (k5 h).1
      omega
  refine ⟨_, rfl, fun _ => ?_, fun hgt => ?_⟩
  · unfold w_233_12
    exact ⟨_, rfl, hQ', f2, k4, fun h => ⟨rfl, (k5 h).2.2.2.2⟩⟩
  · unfold w_233_12
    exact ⟨_, rfl, hQ', f2, k4, fun h => by omega⟩
def iK : List Nat := [0, 2, 3, 7, 8, 9, 26, 27, 28, 64, 65, 70, 71, 72, 73, 74, 76, 77, 78]
/-- a question's frame -/
def IF (s s' : yS) : Prop := BKF 2 s s' ∧ (∀ k, k ∉ iK → s'.1 k = s.1 k) ∧ (∀ i, i < 10 → s'.2.1 264 i = s.2.1 264 i) ∧ TYN s' ∧ GC s' ∧ LFr 2 s.2.2 s'.2.2
theorem IF_tr {s s' s'' : yS} (h : IF s s') (h' : IF s' s'') : IF s s'' := ⟨BKF_tr h.1 h'.1, fun k hk => (h'.2.1 k hk).trans (h.2.1 k hk), fun i hi => (h'.2.2.1 i hi).trans (h.2.2.1 i hi), h'.2.2.2.1, h'.2.2.2.2.1, fun q i hi => (h'.2.2.2.2.2 q i hi).trans (h.2.2.2.2.2 q i hi)⟩
theorem IF_qf {y h S : Nat} (hF : QF y h S s s') (hy : 8004 ≤ y) (hh : h ≤ 12006) (hS : 8210 ≤ S) : IF s s' := ⟨QF_BK hF hy hh hS, fun k hk => hF.1 k (fun w => hk ((show ∀ k ∈ qK, k ∈ iK by decide) k w)), fun i hi => hF.2.1 264 i (fun w => by omega) (fun w => by omega) (by decide), hF.2.2.2.1, hF.2.2.2.2, fun _ _ _ => by rw [hF.2.2.1]⟩
theorem GPx_if (hnb : nb < 2) (h : GPx nb s) (hF : IF s s') (h75 : (s.1 75).toInt = (nb : Int)) : GPx nb s' := by
  have hBP : BP s := by
    obtain ⟨own, n, W, N, T, F, H, S0, G, S, O, k1, -⟩ := h
    exact k1.2.2.2.1
  refine GPx_keep (b := 2) (by omega) hnb (by omega) h hF.1 hF.2.2.2.2.2 (fun a ha => ?_) hF.2.2.2.1 hF.2.2.2.2.1 (by rw [hF.2.1 75 (by decide)]; exact h75)
  have := hBP a ha
  unfold tyE at this ⊢
  rw [hF.2.2.1 a (by omega)]
  exact this
/-- the last part: both TYPES stand read -/
theorem i36 {d y1 h1 y2 h2 : Nat} {a1 a2 : Int32} {t : yS} (hnb : nb < 2) (hI : IF s t) (hG : ¬ (s.1 90).toInt = 0 → GPx nb s ∧ (s.1 29).toInt = (nb : Int) ∧ (s.1 75).toInt = (nb : Int)) (hL : Lx 2 n W t) (h8 : 0 ≤ (t.1 8).toInt ∧ (t.1 8).toInt ≤ 70000) (h65 : (t.1 65).toInt = 8210) (t2 : (t.1 2).toInt = 0) (hY : (t.1 8).toInt = 0 → a1.toInt = (y1 : Int) ∧ a2.toInt = (y2 : Int) ∧ 8004 ≤ y1 ∧ h1 ≤ y2 ∧ h2 ≤ 10764 ∧ isY 2 n t 11 h1 y1 ∧ isY 2 n t 11 h2 y2) : w_236_36 (Tot (d + 20)) a1 a2 t (fun v s' => ∃ r : Int32, v = some (.int r) ∧ -2 ≤ r.toInt ∧ r.toInt ≤ 1 ∧ IF s s' ∧ (s'.1 2).toInt = 0) := by
  have e90 : t.1 90 = s.1 90 := hI.2.1 90 (by decide)
  unfold w_236_36 w_236_45 w_236_58 w_236_85
  refine ⟨fun _ => ⟨-1, rfl, by decide, by decide, hI, t2⟩, fun h90 => ⟨by omega, fun x1 hx1 => ⟨fun hx => ⟨fun _ => ⟨-2, rfl, by decide, by decide, hI, t2⟩, fun hle => ?_⟩, fun _ => ⟨-1, rfl, by decide, by decide, hI, t2⟩⟩⟩⟩
  rw [e90] at h90
  obtain ⟨k1, k2, k3⟩ := hG h90
  obtain ⟨g1, g2, g3, g4, g5, g6, g7⟩ := hY (by omega)
  have l1 := isY_lt g6
  have l2 := isY_lt g7
  obtain ⟨own, n2, W2, N, T, F, H, S0, G, S, O, m1, m2, m3, m4, m5, m6, m7, m8, -⟩ := GPx_if hnb k1 hI k3
  have hQ : QW own nb n2 N T F H S0 G n W t := ⟨m1, hL, h8, by rw [hI.2.1 29 (by decide)]; exact k2, m8, m7⟩
  refine Tot.imp (Tot.mono (by omega) (s_234 (S := 8210) hQ g6 g3 (by omega) h65 (by omega) (by omega) g1)) ?_
  rintro v u ⟨x4, rfl, uF, uQ, S1, q1, q2, q3, q4⟩
  have u2 : (u.1 2).toInt = 0 := by rw [uF.1 2 (by decide)]; exact t2
  have uI := IF_tr hI (IF_qf uF g3 (by omega) (by omega))
  refine ⟨x4, rfl, fun _ => ⟨-2, rfl, by decide, by decide, uI, u2⟩, fun hx4 => ?_⟩
  obtain ⟨-, -, n1, n3⟩ := q4 hx4
  have uY : isY 2 n u 11 h2 y2 := isY_eq (QF_row uF (by decide)) (QF_row uF (by decide)) 11 h2 y2 (fun _ _ _ => ⟨by rw [QF_row uF (by decide)], by rw [QF_row uF (by decide)], by rw [QF_row uF (by decide)], fun _ => by rw [QF_row uF (by decide)], fun _ => by rw [QF_row uF (by decide)]⟩) g7
  refine Tot.imp (Tot.mono (by omega) (s_234 (S := S1) uQ uY (by omega) (by omega) q1 (by omega) (by omega) g2)) ?_
  rintro v w ⟨x7, rfl, wF, wQ, S2, p1, p2, p3, p4⟩
  have w2 : (w.1 2).toInt = 0 := by rw [wF.1 2 (by decide)]; exact u2
  have wI := IF_tr uI (IF_qf wF (by omega) (by omega) (by omega))
  refine ⟨x7, rfl, fun hx7 => ?_, fun _ => ⟨-2, rfl, by decide, by decide, wI, w2⟩⟩
  obtain ⟨w64, w70, o1, o3⟩ := p4 hx7
  obtain ⟨n4, n5, n6, n7, n8⟩ := n1
  obtain ⟨o4, o5, o6, o7, o8⟩ := o1
  have a231 : w.2.1 231 y1 = u.2.1 231 y1 := wF.2.1 231 y1 (fun e => by omega) (fun e => by omega) (by decide)
  have a232 : w.2.1 232 y1 = u.2.1 232 y1 := wF.2.1 232 y1 (fun e => by omega) (fun e => by omega) (by decide)
  have sg : seg w 8210 (S1 - 8210) = seg u 8210 (S1 - 8210) := seg_eq (fun i i1 i2 => wF.2.1 264 i (fun e => by omega) (fun e => by omega) (by decide))
  rw [← sg] at n3
  rw [show a1.toInt.toNat = y1 by omega, show a2.toInt.toNat = y2 by omega, a231, a232]
  refine ⟨by omega, by omega, by omega, by omega, ?_⟩
  obtain ⟨d1, d2, d3, d4, d5, d6, d7, d8, d9, d10⟩ := id wQ.1
  obtain ⟨rH, rD, rF⟩ := RSx_of (fun q i hv => SYo_SY (d2 q i hv))
  have gT' : gT G = T := by rw [← d8]; exact (pgA d1).1
  obtain ⟨z, Zs, cz⟩ := cutT_ex o3.1
  have hz6 : Zs.length ≤ 6 ∧ z / 8 < T := by
    rw [cz.2.2]
    rcases (okE_cut cz o3).1 with w | w
    · have := (d9.2.1 _ w.1).1
      omega
    · exact absurd w.2.2 id
  refine Tot.imp (Tot.mono (by omega) (s_195 (e := 0) (P := 100000) (E := 0) (p := 8210) (l := S1 - 8210) (t := S1) (m := S2 - S1) (x := z) (As := Zs) d1 rH rD rF d3 d4 d5 d6 d7 w64 (by omega) (by omega) w70 (by omega) n5 n6 o5 o6 (by omega) (by omega) (by rw [d8]; exact ok_Sub d9 gT' scC_0 n3) cz hz6.1 (Or.inl hz6.2))) ?_
  rintro v f ⟨hWF, x10, rfl, z0, z2, -⟩
  have fX : XF [71, 72, 73, 74] 100000 0 w f := hWF
  have f2 : (f.1 2).toInt = 0 := by rw [fX.1 2 (by decide)]; exact w2
  have fI : IF s f := IF_tr wI ⟨BKF_xf fX (by omega), fun k hk => fX.1 k (fun e => hk ((show ∀ k ∈ [71, 72, 73, 74], k ∈ iK by decide) k e)), fun i hi => fX.2.1 264 i (fun e => by omega) (fun e => by omega) (fun e => by omega), fX.2.2.2.1, fX.2.2.2.2, fun _ _ _ => by rw [fX.2.2.1]⟩
  exact ⟨x10, rfl, fun h2 => ⟨x10, rfl, by omega, by omega, fI, f2⟩, fun _ => ⟨-2, rfl, by decide, by decide, fI, f2⟩⟩
end IM
