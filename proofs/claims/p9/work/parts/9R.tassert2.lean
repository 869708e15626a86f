theorem nu6 {P P1 P3 p : Nat} (h : P1 ≤ P + 130 * (p + 1)) (h3 : P3 ≤ P1 + 66) : P3 ≤ P + 130 * (p + 2) := by omega
theorem nu7 {P1 P3 m : Nat} (h : P1 + 3000 * m ≤ 198600) (h3 : P3 ≤ P1 + 66) : P3 ≤ 199600 := by omega
section TA2
variable {own : Nat → Nat × Nat} {b n W N T F H S0 : Nat} {G : PG} {fo : Option Nat} {m S O P E : Nat} {s : yS}
theorem s_228 {d p lo hi e a y : Nat} {a1 : Int32} (ih : PEH own b n W N T F H S0 G fo m p d) (hd : 18 ≤ d) (hp : p ≤ 19) (hW : TW own b n W N T F H S0 G fo S O P E s) (hC : TCo own b N (m + 1) lo hi S O P E s) (hehi : e < hi) (h1 : a1.toInt = (e : Int)) (ha : (s.2.1 227 e).toInt = (a : Int)) (hba : (s.2.1 228 a).toInt = (e : Int)) (hE : isEp b n s (isE b n s m) p lo e a) (hpt : 4002 * (b : Int) ≤ (s.2.1 223 e).toInt ∧ (s.2.1 223 e).toInt < 4002 * (b : Int) + n) (hw : (s.2.1 221 e).toInt = 5) (hy : (s.2.1 229 e).toInt = (y : Int)) (hey : e < y) (hY : isY b n s 11 hi y) : Tot (d + 1) 228 [.ref 213, .int a1] s (fun v s' => v = none ∧ TEQ b lo hi S O P E (130 * (p + 2)) (wER G H b n fo m (p + 1) lo hi e) s s') := by
  obtain ⟨hb, hn, hT24, hF60, hH, gT', gF', hS8⟩ := TW_num hW
  obtain ⟨c1, c2, c3, c4, c5, c6, c7, c8, c9, c10, c11, c12, c13⟩ := id hW
  obtain ⟨t1, t2, t3, t4, t5, t6, t7, t8⟩ := id hC
  have hla := isEp_lt hE
  have e1 : a1.toInt.toNat = e := by omega
  have hyh := isY_lt hY
  have hcs := cM_sub (s := s) (lo := lo) (hi := hi) (lo' := lo) (hi' := e) (Nat.le_refl _) (by omega) (by omega)
  obtain ⟨-, -, i2, i3, -⟩ := id hY
  refine t_228 ?_
  unfold w_228_0
  rw [e1]
  refine ⟨by omega, ?_⟩
  refine Tot.imp (ih s _ lo e a S O P E hW (TCo_sub hC (Nat.le_refl _) (by omega) (by omega)) hE ha) ?_
  rintro v s1 ⟨rfl, F1, f1, S1, O1, P1, q1, q2, q3, q4, q5, q6, q7, q8, q9, q10⟩
  have F1' : TFr tK b lo hi S P E O s s1 := TF_mo F1 (fun _ w => w) (Nat.le_refl _) (by omega) (Nat.le_refl _) (Nat.le_refl _) (Nat.le_refl _) (Nat.le_refl _)
  have f18 := f1.1
  have hz : P1 ≤ P + 130 * (p + 2) := nu2 q9
  have hz2 : S1 ≤ S + (hi - lo) := nu1 q5 (Nat.le_of_lt hehi)
  have hz3 : O1 ≤ O + 60 * cM s lo hi := nu3 q7 hcs
  have hP1 := nu4 t7 q9 hp
  have hP9 : P1 ≤ 199500 := Nat.le_trans (Nat.le_trans (Nat.le_add_right _ _) hP1) (by decide)
  have hP0 : 100000 ≤ P1 := Nat.le_trans c13 q8
  have hSz : S1 + (hi - y) ≤ 10 + 4100 * (b + 1) := by clear q10 ih t4; omega
  refine ⟨rfl, fun hle => ?_, fun hgt => ⟨rfl, TEQ_bad F1' f1 (by omega) q1 q2 q3 q4 hz2 q6 hz3 q8 hz⟩⟩
  obtain ⟨A0, p0, a2, a3, a4, a5, a6, a7⟩ := q10 (by omega)
  clear q10
  have q70 : (s1.1 70).toInt = (E : Int) := by rw [F1.1 70 (by decide)]; exact c6
  have W1 : TW own b n W N T F H S0 G fo S1 O1 P1 E s1 := TW_fr hW F1' (by decide) t4 f1.1 q1 q70 q2 q3 q4 (Nat.le_trans hz2 t5) q6 hP0
  obtain ⟨d1, d2, d3, d4, d5, d6, d7, d8, d9, d10⟩ := id W1.1
  have kE := (wEp_ok a7).1
  have kl := (wEp_ok a7).2
  obtain ⟨x, As, hc⟩ := cutT_ex kE.1
  obtain ⟨vx, kA⟩ := okE_cut hc kE
  have ex : tyE s1 p0 = x := by rw [← a4] at hc; exact (cut_len hc).2
  have hx6 : x % 8 ≤ 6 ∧ (x / 8 < T ∨ 1000 ≤ x / 8) := by
    rcases vx with w | w
    · have := (d9.2.1 _ w.1).1
      omega
    · omega
  have r23 : s1.2.1 223 e = s.2.1 223 e := by rw [TF_row F1 (by decide)]
  have r29 : s1.2.1 229 e = s.2.1 229 e := by rw [TF_row F1 (by decide)]
  have hS1P : S1 ≤ P1 := Nat.le_trans (Nat.le_trans (TW_num W1).2.2.2.2.2.2.2 (by decide)) hP0
  refine Tot.imp (Tot.mono (by omega) (s_220 (d := 0) (H := H) (p := p0) d1 d5 d7 a2 (by omega) (by rw [ex]; exact hx6.2))) ?_
  rintro v s2 ⟨es, x5, rfl, h5⟩
  have es := es.symm
  subst es
  refine ⟨x5, rfl, fun h50 => ⟨by omega, ?_⟩, fun h50 => ⟨by omega, ?_⟩⟩
  · clear h5
    rw [r29]
    refine Tot.imp (Tot.mono (by omega) (t204 W1 (isY_tf F1 hY) (by omega) hy hSz)) ?_
    rintro v s6 ⟨rfl, F6, f6, kf, S2, k1, k2, k3, k4⟩
    have F6' : TFr tK b e hi S1 P1 E O1 s1 s6 := TF_mo F6 (fun _ w => w) (by omega) (Nat.le_refl _) (Nat.le_refl _) (Nat.le_refl _) (Nat.le_refl _) (Nat.le_refl _)
    have hS2 : S2 ≤ S + (hi - lo) := by clear ih t4; omega
    have w64 : (s6.1 64).toInt = (P1 : Int) := by rw [kf 64 (by decide)]; exact q1
    have w85 : (s6.1 85).toInt = (O1 : Int) := by rw [kf 85 (by decide)]; exact q3
    have w70 : (s6.1 70).toInt = (E : Int) := by rw [kf 70 (by decide)]; exact q70
    have W6 : TW own b n W N T F H S0 G fo S2 O1 P1 E s6 := TW_fr W1 F6' (by decide) (fun z z1 z2 => t4 z (by omega) z2) f6.1 w64 w70 k1 w85 k2 (Nat.le_trans hS2 t5) (Nat.le_refl _) hP0
    have Ft : ∀ u, TFr tK b e hi S2 P1 E O1 s6 u → TFr tK b lo hi S P E O s u := fun u hu => TF_tr F1' (TF_tr F6' hu (fun _ w => w) (Nat.le_refl _) (Nat.le_refl _) k2 (Nat.le_refl _) (Nat.le_refl _) (Nat.le_refl _)) (fun _ w => w) (by omega) (Nat.le_refl _) q4 q8 (Nat.le_refl _) q6
    have Fs : ∀ u, TFr tK b e hi S2 P1 E O1 s6 u → TFr tK b e hi S1 P1 E O1 s1 u := fun u hu => TF_tr F6' hu (fun _ w => w) (Nat.le_refl _) (Nat.le_refl _) k2 (Nat.le_refl _) (Nat.le_refl _) (Nat.le_refl _)
    have f68 := f6.1
    refine ⟨rfl, fun hf => ?_, fun hf => ?_⟩
    · unfold w_228_43
      exact ⟨fun w => absurd (by omega) hf, fun _ => ⟨rfl, TEQ_bad (Ft s6 (TF_rf F6.2.2.2.1 F6.2.2.2.2)) (f8_tr f1 f6) hf w64 k1 w85 (Nat.le_trans q4 k2) hS2 q6 hz3 q8 hz⟩⟩
    have hR := k4 hf
    refine Tot.imp (Tot.mono (by omega) (t211 W6 (Nat.le_trans hP9 (by decide)) (by omega) (isY_tf F6 (isY_tf F1 hY)) (by omega) hR (by omega) hy)) ?_
    rintro v s8 ⟨rfl, X8, f8', o8⟩
    refine ⟨rfl, ?_⟩
    obtain ⟨r1, r2, r3, r4, r5, -⟩ := id hR
    obtain ⟨L, hLd⟩ : ∃ L, L = seg s6 S1 (S2 - S1) := ⟨_, rfl⟩
    rw [← hLd] at o8
    have kL : okE G (scX G fo) L := by rw [hLd]; exact ⟨rsv_F hR, fun x hx => rsv_V hR x hx⟩
    obtain ⟨xL, AL, hcL⟩ := cutT_ex kL.1
    have exL : tyE s6 S1 = xL := by rw [hLd] at hcL; exact (cut_len hcL).2
    have hL6 : L.length ≤ 60 := by rw [hLd, seg_len]; exact r4
    have S2P : S2 ≤ P1 := Nat.le_trans (Nat.le_trans (TW_num W6).2.2.2.2.2.2.2 (by decide)) hP0
    -- the end, from any state of the work
    have fin : ∀ (u : yS) (P3 : Nat) (b2 b3 : Int32), XF [8, 64, 71, 72, 73, 74] P1 E s6 u → f8 s6 u → (u.1 64).toInt = (P3 : Int) → P1 ≤ P3 → P3 ≤ P1 + 66 → ((u.1 8).toInt = 0 → okBa G L) → w_228_101 (Tot d) a1 b2 b3 (s.2.1 229 e) u (fun v s' => v = none ∧ TEQ b lo hi S O P E (130 * (p + 2)) (wER G H b n fo m (p + 1) lo hi e) s s') := by
      intro u P3 b2 b3 uX uf u64 u1 u2 uo
      obtain ⟨dd, rfl⟩ : ∃ dd, d = dd + 1 := ⟨d - 1, by omega⟩
      refine as101 (d := dd) (S1 := S1) (O1 := O1) (P1 := P1) (S2 := S2) (P2 := P1) (P3 := P3) (L := L) (s1 := s1) (by omega) hehi (by omega) hy hey hyh hw ha hba hpt F1 (Fs u (TF_mo (TF_xf (b := b) (lo := e) (hi := hi) (S := S2) (O := O1) uX) (by decide) (Nat.le_refl _) (Nat.le_refl _) (Nat.le_refl _) (Nat.le_refl _) (Nat.le_refl _) (Nat.le_refl _))) f1 (f8_tr f6 uf) q4 q6 q8 hS1P a7 u64 (by rw [uX.1 65 (by decide)]; exact k1) (by rw [uX.1 85 (by decide)]; exact w85) k2 hS2 hz3 (Nat.le_trans q8 u1) (nu6 q9 u2) (Nat.le_trans S2P u1) (fun q => ⟨⟨S1, S2 - S1, ⟨by omega, by rw [XF_row uX (by decide)]; exact r1, by rw [XF_row uX (by decide)]; exact r2, by omega, r4⟩, W1.2.2.2.2.2.2.2.2.2.1, by omega, ?_, kL, uo q⟩, hL6⟩)
      rw [hLd]
      exact XF_seg uX (by omega)
    have X8' : XF [8, 64, 71, 72, 73, 74] P1 E s6 s8 := XF_mo X8 (by decide) (Nat.le_refl _) (Nat.le_refl _)
    have v64 : (s8.1 64).toInt = (P1 : Int) := by rw [X8.1 64 (by decide)]; exact w64
    have f88 := f8'.1
    unfold w_228_43
    rw [show (s.2.1 229 e).toInt.toNat = y by omega]
    refine ⟨fun hle => ⟨by omega, ?_⟩, fun hgt => ⟨rfl, TEQ_bad (Ft s8 (TF_mo (TF_xf (b := b) (lo := e) (hi := hi) (S := S2) (O := O1) X8) (by decide) (Nat.le_refl _) (Nat.le_refl _) (Nat.le_refl _) (Nat.le_refl _) (Nat.le_refl _) (Nat.le_refl _))) (f8_tr f1 (f8_tr f6 f8')) (by omega) v64 (by rw [X8.1 65 (by decide)]; exact k1) (by rw [X8.1 85 (by decide)]; exact w85) (Nat.le_trans q4 k2) hS2 q6 hz3 q8 hz⟩⟩
    have okb := o8 (by omega)
    have C8 : CK own b n N T F H S0 G s8 := CK_xf W6.1 X8 (by decide) (Nat.le_trans (by decide) hP0)
    obtain ⟨j1, j2, j3, j4, j5, j6, j7, j8, j9, j10⟩ := id C8
    have ty8 : s8.2.1 264 S1 = s6.2.1 264 S1 := X8.2.1 264 S1 (fun w => by omega) (fun w => by omega) (fun w => by omega)
    have exL8 : tyE s8 S1 = xL := by unfold tyE at exL ⊢; rw [ty8]; exact exL
    have hxL : xL / 8 < T ∨ 1000 ≤ xL / 8 := by
      rcases (okE_cut hcL kL).1 with w | w
      · omega
      · omega
    have segA : seg s8 p0 A0.length = A0 := by
      rw [XF_seg X8 a6, TF_seg F6 a5 a6 hb]
      exact a4
    have exA8 : tyE s8 p0 = x := by rw [← segA] at hc; exact (cut_len hc).2
    have tp := j5 p0
    have tpI : (s8.2.1 264 p0).toInt = (x : Int) := by unfold tyE at exA8; omega
    have go74 : ∀ (u : yS) (P3 t0 m0 z : Nat) (Zs : List (List Nat)) (b2 b3 : Int32), XF [8, 64, 71, 72, 73, 74] P1 E s8 u → u.1 8 = s8.1 8 → (u.1 64).toInt = (P3 : Int) → P1 ≤ P3 → P3 ≤ P1 + 66 → b2.toInt = (t0 : Int) → b3.toInt = (m0 : Int) → t0 + m0 ≤ P3 → cutT (seg u t0 m0) z Zs → Zs.length ≤ 6 → (z / 8 < T ∨ 1000 ≤ z / 8) → w_228_74 (Tot d) a1 b2 b3 (s.2.1 229 e) u (fun v s' => v = none ∧ TEQ b lo hi S O P E (130 * (p + 2)) (wER G H b n fo m (p + 1) lo hi e) s s') := by
      intro u P3 t0 m0 z Zs b2 b3 uX u8 u64 u1 u2 hb2 hb3 htm hcz hz6 hzT
      have Cu := CK_xf C8 uX (by decide) (Nat.le_trans (by decide) hP0)
      obtain ⟨l1, l2, l3, l4, l5, l6, l7, l8, l9, l10⟩ := id Cu
      obtain ⟨rH, rD, rF⟩ := RSx_of (fun q i hv => SYo_SY (l2 q i hv))
      have uL : seg u S1 (S2 - S1) = L := by rw [XF_seg uX (by omega), XF_seg X8 (by omega), hLd]
      have u31 : (u.2.1 231 y).toInt = (S1 : Int) := by rw [XF_row uX (by decide), XF_row X8 (by decide)]; exact r1
      have u32 : (u.2.1 232 y).toInt = ((S2 - S1 : Nat) : Int) := by rw [XF_row uX (by decide), XF_row X8 (by decide)]; exact r2
      have uf8 : 0 ≤ (u.1 8).toInt ∧ (u.1 8).toInt ≤ 70000 := by rw [u8]; exact f8'.1
      unfold w_228_74
      rw [show (s.2.1 229 e).toInt.toNat = y by omega]
      refine ⟨by omega, by omega, ?_⟩
      refine Tot.imp (Tot.mono (by omega) (s_195 (e := 0) (P := P3) (E := E) (p := S1) (l := S2 - S1) (t := t0) (m := m0) (x := z) (As := Zs) l1 rH rD rF l3 l4 l5 l6 l7 u64 (Nat.le_trans (Nat.le_trans (by decide) hP0) u1) (Nat.le_trans (nu7 hP1 u2) (by decide)) (by rw [uX.1 70 (by decide), X8.1 70 (by decide)]; exact w70) (by omega) u31 u32 hb2 hb3 (by omega) htm (by rw [l8, uL]; exact ok_Sub l9 gT' (scX_C l9 gF' W6.2.2.2.1) kL) hcz hz6 hzT)) ?_
      rintro v u' ⟨hWF, r, rfl, r0, r2', -⟩
      have X' : XF [8, 64, 71, 72, 73, 74] P1 E s6 u' := XF_tr X8' (XF_tr uX (show XF [71, 72, 73, 74] P3 E u u' from hWF) (by decide) u1 (Nat.le_refl _)) (by decide) (Nat.le_refl _) (Nat.le_refl _)
      have u'64 : (u'.1 64).toInt = (P3 : Int) := by rw [hWF.1 64 (by decide)]; exact u64
      have e8' : u'.1 8 = s8.1 8 := by rw [hWF.1 8 (by decide), u8]
      have f' : f8 s6 u' := f8_tr f8' (f8_eq f8'.1 e8')
      have bad : ∀ w : Int32, 1 ≤ w.toInt ∧ w.toInt ≤ 15 → w_228_96 (Tot d) a1 b2 b3 (s.2.1 229 e) r w u' (fun v s' => v = none ∧ TEQ b lo hi S O P E (130 * (p + 2)) (wER G H b n fo m (p + 1) lo hi e) s s') := by
        intro w hw'
        unfold w_228_96
        rw [show (s.2.1 229 e).toInt.toNat = y by omega]
        have r22 : u'.2.1 222 y = s.2.1 222 y := by rw [XF_row X' (by decide), TF_row F6 (by decide), TF_row F1 (by decide)]
        rw [r22]
        refine ⟨by omega, ?_⟩
        refine Tot.imp (Tot.mono (by omega) (fo_163 (d := 0) (w := w) (Lx_xf W6.2.1 X') f'.1 hw' (by omega))) ?_
        rintro v u'' ⟨rfl, hF, hne⟩
        exact ⟨rfl, fin u'' P3 b2 b3 (XF_fo X' hF (by decide)) (f8_tr f' (f8_fo hF hne)) (by rw [FO_1 hF (by decide)]; exact u'64) u1 u2 (fun w => absurd w hne)⟩
      exact ⟨r, rfl, fun _ => fin u' P3 b2 b3 X' f' u'64 u1 u2 (fun _ => okb), fun _ => ⟨fun _ => bad 9 (by decide), fun _ => bad 7 (by decide)⟩⟩
    refine Tot.imp (Tot.mono (by omega) (s_220 (d := 0) (H := H) (p := S1) j1 j5 j7 (by rw [XF_row X8 (by decide)]; exact r1) (by omega) (by rw [exL8]; exact hxL))) ?_
    rintro v s9 ⟨es, x3, rfl, h3⟩
    have es := es.symm
    subst es
    clear h3
    refine ⟨x3, rfl, fun _ => fin s8 P1 _ _ X8' f8' v64 (Nat.le_refl _) (by omega) (fun _ => okb), fun _ => ⟨by omega, ?_⟩⟩
    rw [show (s1.1 80).toInt.toNat = p0 by omega]
    refine Tot.imp (Tot.mono (by omega) (s_185 (d := 0) tp.1)) ?_
    rintro v s9 ⟨es, x6, rfl, hx6'⟩
    have es := es.symm
    subst es
    refine ⟨x6, rfl, fun hlt => ?_, fun hge => ⟨by omega, ?_⟩⟩
    · exact go74 s8 P1 p0 A0.length x As _ _ (XF_rf j5 j6) rfl v64 (Nat.le_refl _) (by omega) a2 a3 a6 (by rw [segA]; exact hc) (by rw [hc.2.2]; exact hx6.1) hx6.2
    · refine Tot.imp (Tot.mono (by omega) (s_185 (d := 0) tp.1)) ?_
      rintro v s9 ⟨es, x9, rfl, hx9⟩
      have es := es.symm
      subst es
      have hsc : scX G fo (x / 8) := by
        rcases vx with w | w
        · omega
        · exact w.2.2
      obtain ⟨o1, o2, o3, z, Zs, o4, o5, o6⟩ := scX_C j9 gF' W6.2.2.2.1 _ hsc
      obtain ⟨rH, rD, rF⟩ := RSx_of (fun q i hv => SYo_SY (j2 q i hv))
      refine ⟨x9, rfl, ?_⟩
      refine Tot.imp (Tot.mono (by omega) (s_194 (e := 0) (P := P1) (E := E) (code := x / 8) j1 rH rD j5 j6 j7 v64 (Nat.le_trans (by decide) hP0) (Nat.le_trans hP9 (by decide)) (by rw [X8.1 70 (by decide)]; exact w70) (by omega) (by omega) j3 (by rw [j8]; exact o1))) ?_
      rintro v s10 ⟨rfl, hBF, M, Q, m1, m2, m3, m4, m5, m6, b1, m7⟩
      rw [j8, bdT_b1 (b2 := 0)] at m7
      refine ⟨rfl, go74 s10 (Q + M) Q M z Zs _ _ (XF_mo (show XF [64, 71, 72] P1 E s8 s10 from hBF) (by decide) (Nat.le_refl _) (Nat.le_refl _)) (hBF.1 8 (by decide)) (by omega) (by omega) (by omega) m4 m5 (Nat.le_refl _) (by rw [m7]; exact o4) ?_ (Or.inl (by omega))⟩
      have vz := (okE_cut o4 o2).1
      have := (j9.2.1 _ o5).1
      rw [o4.2.2]
      rcases vz with w | w <;> omega
  · rw [r23]
    refine Tot.imp (Tot.mono (by omega) (fo_163 (d := 0) (w := 6) W1.2.1 f1.1 (by decide) ⟨hpt.1, by omega⟩)) ?_
    rintro v u ⟨rfl, hF, hne⟩
    exact ⟨rfl, rfl, TEQ_bad (TF_fo F1' hF (by decide)) (f8_tr f1 (f8_fo hF hne)) hne (by rw [FO_1 hF (by decide)]; exact q1) (by rw [FO_1 hF (by decide)]; exact q2) (by rw [FO_1 hF (by decide)]; exact q3) q4 hz2 q6 hz3 q8 hz⟩
end TA2
