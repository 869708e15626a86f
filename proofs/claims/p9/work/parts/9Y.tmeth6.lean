theorem nu17 {O O1 c c' c'' d l : Nat} (h1 : O1 ≤ O + 60 * c) (h3 : 1 + d + 0 ≤ c') (h4 : c + c' = c'') (hl : l ≤ 60) {z : Nat} (h5 : O + 60 * c'' ≤ z) : O1 + l ≤ z := by omega
theorem nu18 {P Q K : Nat} (h1 : Q ≤ P + 6) (h2 : K ≤ 60) : Q + K ≤ P + 66 := by omega
theorem nu19 {x : Nat} (h : x % 8 = 0) : 8 * (x / 8) = x := by omega
section TM7
variable {own : Nat → Nat × Nat} {b n W N T F H S0 : Nat} {G : PG} {fo : Option Nat} {m p lo hi e a hm S O P E S1 O1 P1 O2 P2 ps ls x h cd : Nat} {A0 M : List Nat} {As : List (List Nat)} {cs : List (Nat × Nat × Nat)} {ys : List Nat} {s s1 u : yS}
theorem MU_fo {u' : yS} (hU : MU own b n W N T F H S0 G fo e E S1 O1 P1 O2 P2 ps ls x h cd A0 M As s1 u) (hF : FO u u') (hne : ¬ (u'.1 8).toInt = 0) : MU own b n W N T F H S0 G fo e E S1 O1 P1 O2 P2 ps ls x h cd A0 M As s1 u' := by
  obtain ⟨u1, u2, u3, u4, u5, u6, u7, u8, u9, u10, u11, u12, u13, u14, u15, u16, u17, u18, u19, u20⟩ := hU
  obtain ⟨w1, w2, w3, w4, w5, w6, w7, w8, w9, w10, w11, w12, w13⟩ := id u3
  have e2 := FO_2 hF
  refine ⟨TF_fo u1 hF (by decide), f8_tr u2 (f8_fo hF hne), ?_, u4, u5, u6, u7, by rw [e2]; exact u8, by rw [e2]; exact u9, u10, ?_, u12, u13, u14, u15, by rw [e2]; exact u16, u17, ?_, u19, u20⟩
  · exact TW_fr u3 (TF_fo (TF_rf w1.2.2.2.2.1 w1.2.2.2.2.2.1 (ks := tK) (b := b) (lo := e) (hi := e) (S := S1) (P := P2) (E := E) (O := O2)) hF (by decide)) (by decide) (fun z z1 z2 => by omega) (FO_8 hF) (by rw [FO_1 hF (by decide)]; exact w5) (by rw [FO_1 hF (by decide)]; exact w6) (by rw [FO_1 hF (by decide)]; exact w7) (by rw [FO_1 hF (by decide)]; exact w8) (Nat.le_refl _) w11 (Nat.le_refl _) w13
  · rw [sg_eq (s := u) (fun i _ _ => by rw [e2])]
    exact u11
  · rw [seg_2 e2]
    exact u18
theorem m33 {d : Nat} {a1 a2 : Int32} (ih : TEH own b n W N T F H S0 G fo m d) (hd : 18 ≤ d) (hM : MS own b n W N T F H S0 G fo m p lo hi e a hm S O P E S1 O1 P1 A0 s s1) (hY : MY b n m hi e hm ys cs s) (h230 : (s.2.1 230 e).toInt = (ys.length : Int)) (h226 : (s.2.1 226 e).toInt = (cs.length : Int)) (u1 : TFr tK b e (e + 1) S1 P1 E O1 s1 u) (u2 : f8 s1 u) (u3 : TW own b n W N T F H S0 G fo S1 O2 P2 E u) (u4 : O1 ≤ O2) (u5 : O2 ≤ O1 + 60) (u6 : P1 ≤ P2) (u7 : P2 ≤ P1 + 66) (u8 : (u.2.1 271 e).toInt = (O1 : Int)) (u9 : (u.2.1 272 e).toInt = (A0.length : Int)) (u10 : O1 + A0.length ≤ O2) (u11 : sg u O1 A0.length = A0) (u12 : midT G A0 M) (u13 : cutT M x As) (u14 : okE G (scX G fo) M) (u15 : x / 8 < gT G) (u18 : seg u ps ls = M) (u19 : ps + ls ≤ S1 ∨ 100000 ≤ ps) (u20 : ps + ls ≤ P2) (h1 : a1.toInt = (e : Int)) (h2 : a2.toInt = (ps : Int)) : w_226_33 (Tot (d + 1)) a1 a2 u (MEQ b n H G fo m p lo hi e S O P E s) := by
  obtain ⟨c1, c2, c3, c4, c5, c6, c7, c8, c9, c10, c11, c12, c13, c14, c15, c16, c17, c18, c19, c20⟩ := id hM
  obtain ⟨hb, hn, hT24, hF60, hH, gT', gF', hS8⟩ := TW_num u3
  obtain ⟨w1, w2, w3, w4, w5, w6, w7, w8, w9, w10, w11, w12, w13⟩ := id u3
  obtain ⟨d1, d2, d3, d4, d5, d6, d7, d8, d9, d10⟩ := id w1
  have hN := c2.2.2.1
  have hhN := c2.2.1
  have hP1 := nu4 c2.2.2.2.2.2.2.1 c10 c11
  have hP2 : P2 ≤ 199600 := nu7 hP1 u7
  have e1 : a1.toInt.toNat = e := by omega
  have ru : ∀ q, q ∉ [226, 230, 231, 232, 264, 265, 266, 267, 268, 270, 271, 272] → u.2.1 q = s.2.1 q := fun q hq => by rw [TF_row u1 hq, TF_row c3 hq]
  obtain ⟨k1, k2, -⟩ := id c18
  have ex : tyE u ps = x := by rw [← u18] at u13; exact (cut_len u13).2
  have l1 : 1 ≤ ls := by rw [← u18] at u13; exact (cut_len u13).1
  have w4e : ¬ (s.2.1 221 e).toInt = 3 ∧ ¬ (s.2.1 221 e).toInt = 1 := by omega
  have uu : ∀ q, q = 226 ∨ q = 230 → u.2.1 q e = s.2.1 q e := by
    intro q hq
    have w21 : (s1.2.1 221 e).toInt = 4 := by rw [TF_row c3 (by decide)]; exact c17
    rw [u1.2.1 q e (fun w => by omega) (fun w => by omega) (fun w => by omega) (fun w => by omega) (fun w => by omega), c3.2.1 q e (fun w => by omega) (fun w => by omega) (fun w => by omega) (fun w => by omega) (fun w => by omega)]
  have ehi : e + 1 ≤ hi := by omega
  have hcE := cM_e c17 c13 (Nat.le_refl hm) c14
  unfold w_226_33
  rw [e1, ru 222 (by decide)]
  refine ⟨by omega, by omega, ?_⟩
  refine Tot.imp (Tot.mono (by omega) (s_193 (e := 0) (H := H) (p := ps) (c := x / 8) d1 d5 d7 h2 (by omega) (by rw [ex]) (by omega) d3)) ?_
  rintro v u' ⟨X, Y, rfl, r, rfl, hr⟩
  rw [d8] at hr
  obtain ⟨v', hv'⟩ : ∃ v', v' = sf (sf u 73 X) 74 Y := ⟨_, rfl⟩
  have v2 : v'.2 = u.2 := by rw [hv']; rfl
  have vk : ∀ k, ¬ k = 73 → ¬ k = 74 → v'.1 k = u.1 k := fun k h1 h2 => by rw [hv', sf_1, if_neg h2, sf_1, if_neg h1]
  have v73 : v'.1 73 = X := by rw [hv']; rfl
  have v74 : v'.1 74 = Y := by rw [hv']; rfl
  have vX : XF [73, 74] P2 E u v' := ⟨fun k hk => vk k (fun w => hk (by rw [w]; decide)) (fun w => hk (by rw [w]; decide)), fun q i _ _ _ => by rw [v2], by rw [v2], fun i => by rw [v2]; exact d5 i, fun i => by rw [v2]; exact d6 i⟩
  rw [← hv']
  have vF : TFr tK b e (e + 1) S1 P1 E O1 s1 v' := TF_tr u1 (TF_xf (b := b) (lo := e) (hi := e + 1) (S := S1) (O := O2) vX) (by decide) (Nat.le_refl _) (Nat.le_refl _) (Nat.le_refl _) u6 (Nat.le_refl _) u4
  have vf : f8 s1 v' := f8_tr u2 (f8_eq u2.1 (vk 8 (by decide) (by decide)))
  have vW : TW own b n W N T F H S0 G fo S1 O2 P2 E v' := TW_fr u3 (TF_mo (TF_xf (b := b) (lo := e) (hi := e) (S := S1) (O := O2) vX) (ks := tK) (by decide) (Nat.le_refl _) (Nat.le_refl _) (Nat.le_refl _) (Nat.le_refl _) (Nat.le_refl _) (Nat.le_refl _)) (by decide) (fun z z1 z2 => by omega) vf.1 (by rw [vk 64 (by decide) (by decide)]; exact w5) (by rw [vk 70 (by decide) (by decide)]; exact w6) (by rw [vk 65 (by decide) (by decide)]; exact w7) (by rw [vk 85 (by decide) (by decide)]; exact w8) (Nat.le_refl _) w11 (Nat.le_refl _) w13
  have tkv : 4002 * (b : Int) ≤ (s.2.1 222 e).toInt ∧ (s.2.1 222 e).toInt ≤ 4002 * (b : Int) + n := ⟨k1, by omega⟩
  refine ⟨r, rfl, fun hr0 => ⟨by omega, ?_⟩, fun hr0 => ⟨by omega, ?_⟩⟩
  · obtain ⟨-, h, cd, g1, g2, g3, g4⟩ := hr.resolve_right (fun w => hr0 w.1)
    clear hr
    have hU : MU own b n W N T F H S0 G fo e E S1 O1 P1 O2 P2 ps ls x h cd A0 M As s1 v' := by
      refine ⟨vF, vf, vW, u4, u5, u6, u7, by rw [v2]; exact u8, by rw [v2]; exact u9, u10, ?_, u12, u13, u14, u15, ?_, g1, ?_, u19, u20⟩
      · rw [sg_eq (s := u) (fun i _ _ => by rw [v2])]
        exact u11
      · rw [v2, ru 222 (by decide)]
        exact g4
      · rw [seg_2 v2]
        exact u18
    have gg := pgA d1
    rw [d8] at gg
    obtain ⟨-, -, -, gg4, -⟩ := gg
    obtain ⟨⟨-, t1, t2, -, t4, t5, -⟩, -⟩ := d1.2.2.2.2.2.2.2.2.1 h g1
    have n45 : (u.2.1 245 (204 * b + h)).toInt = (ghn G h : Int) := by rw [(gg4 h g1).1]; unfold nT; omega
    have n48 : (u.2.1 248 (204 * b + h)).toInt = (gvn G h : Int) := by rw [(gg4 h g1).2.1]; unfold nT; omega
    rw [v73, v74, show X.toInt.toNat = 204 * b + h by omega, v2, uu 226 (Or.inl rfl), uu 230 (Or.inr rfl)]
    have go76 : w_226_76 (Tot (d + 1)) a1 a2 X Y v' (MEQ b n H G fo m p lo hi e S O P E s) := by
      unfold w_226_76
      rw [e1, v2, ru 222 (by decide)]
      refine ⟨by omega, ?_⟩
      refine Tot.imp (Tot.mono (by omega) (fo_163 (d := 0) (w := 4) vW.2.1 vf.1 (by decide) tkv)) ?_
      rintro v u'' ⟨rfl, hF, hne⟩
      exact ⟨rfl, m83 ih hd hM (MU_fo hU hF hne) hY (fun q => absurd q hne) h1 h2 g2 g3⟩
    refine ⟨by omega, fun _ => go76, fun heq => ⟨by omega, by omega, fun heq2 => ?_, fun _ => go76⟩⟩
    exact m83 ih hd hM hU hY (fun _ => ⟨by omega, by omega⟩) h1 h2 g2 g3
  · rw [v2, ru 222 (by decide)]
    refine Tot.imp (Tot.mono (by omega) (fo_163 (d := 0) (w := 2) vW.2.1 vf.1 (by decide) tkv)) ?_
    rintro v u'' ⟨rfl, hF, hne⟩
    refine ⟨rfl, rfl, m_end hM (TF_fo (TF_mo vF (fun _ w => w) (Nat.le_refl _) ehi (Nat.le_refl _) (Nat.le_refl _) (Nat.le_refl _) (Nat.le_refl _)) hF (by decide)) (f8_tr vf (f8_fo hF hne)) (by rw [FO_1 hF (by decide)]; exact vW.2.2.2.2.1) (by rw [FO_1 hF (by decide)]; exact vW.2.2.2.2.2.2.1) (by rw [FO_1 hF (by decide)]; exact vW.2.2.2.2.2.2.2.1) (Nat.le_refl _) (by omega) u4 ?_ u6 (Nat.le_trans u7 (Nat.add_le_add_left (by decide) _)) (fun q => absurd q hne)⟩
    exact nu11 (c := 0) u5 (by omega) hcE
theorem s_226 {d : Nat} {a1 : Int32} (ih : TEH own b n W N T F H S0 G fo m d) (ihp : PEH own b n W N T F H S0 G fo m p (d + 1)) (hd : 18 ≤ d) (hp : p ≤ 19) (hW : TW own b n W N T F H S0 G fo S O P E s) (hC : TCo own b N (m + 1) lo hi S O P E s) (h1 : a1.toInt = (e : Int)) (ha : (s.2.1 227 e).toInt = (a : Int)) (hba : (s.2.1 228 a).toInt = (e : Int)) (hE : isEp b n s (isE b n s m) p lo e a) (hw : (s.2.1 221 e).toInt = 4) (htk : tkN b n s (s.2.1 222 e).toInt) (hem : e < hm) (hmhi : hm ≤ hi) (hY : MY b n m hi e hm ys cs s) (h230 : (s.2.1 230 e).toInt = (ys.length : Int)) (h226 : (s.2.1 226 e).toInt = (cs.length : Int)) : Tot (d + 2) 226 [.ref 213, .int a1] s (fun v s' => v = none ∧ TEQ b lo hi S O P E (130 * (p + 2)) (wER G H b n fo m (p + 1) lo hi e) s s') := by
  obtain ⟨hb, hn, hT24, hF60, hH, gT', gF', hS8⟩ := TW_num hW
  obtain ⟨c1, c2, c3, c4, c5, c6, c7, c8, c9, c10, c11, c12, c13⟩ := id hW
  obtain ⟨t1, t2, t3, t4, t5, t6, t7, t8⟩ := id hC
  have hla := isEp_lt hE
  have e1 : a1.toInt.toNat = e := by omega
  have hcs := cM_sub (s := s) (lo := lo) (hi := hi) (lo' := lo) (hi' := e) (Nat.le_refl _) (by omega) (by omega)
  have hle : lo ≤ e := by omega
  have hehi : e < hi := by omega
  refine t_226 ?_
  unfold w_226_0
  rw [e1]
  refine ⟨by omega, ?_⟩
  refine Tot.imp (ihp s _ lo e a S O P E hW (TCo_sub hC (Nat.le_refl _) hle (Nat.le_of_lt hehi)) hE ha) ?_
  rintro v s1 ⟨rfl, F1, f1, S1, O1, P1, q1, q2, q3, q4, q5, q6, q7, q8, q9, q10⟩
  have F1' : TFr tK b lo hi S P E O s s1 := TF_mo F1 (fun _ w => w) (Nat.le_refl _) (Nat.le_of_lt hehi) (Nat.le_refl _) (Nat.le_refl _) (Nat.le_refl _) (Nat.le_refl _)
  have f18 := f1.1
  have hz2 : S1 ≤ S + (hi - lo) := nu1 q5 (Nat.le_of_lt hehi)
  have hP1 := nu4 t7 q9 hp
  have hP9 : P1 ≤ 199500 := Nat.le_trans (Nat.le_trans (Nat.le_add_right _ _) hP1) (by decide)
  have hP0 : 100000 ≤ P1 := Nat.le_trans c13 q8
  refine ⟨rfl, fun hgt0 => ?_, fun hgt => ⟨rfl, TEQ_bad F1' f1 (by omega) q1 q2 q3 q4 hz2 q6 (nu3 q7 hcs) q8 (nu2 q9)⟩⟩
  obtain ⟨A0, p0, a2, a3, a4, a5, a6, a7⟩ := q10 (by omega)
  clear q10
  have q70 : (s1.1 70).toInt = (E : Int) := by rw [F1.1 70 (by decide)]; exact c6
  have W1 : TW own b n W N T F H S0 G fo S1 O1 P1 E s1 := TW_fr hW F1' (by decide) t4 f1.1 q1 q70 q2 q3 q4 (Nat.le_trans hz2 t5) q6 hP0
  have hM : MS own b n W N T F H S0 G fo m p lo hi e a hm S O P E S1 O1 P1 A0 s s1 := ⟨hW, hC, F1, f1, q4, q5, q6, q7, q8, q9, hp, hle, hem, hmhi, ha, hba, hw, htk, a7, W1⟩
  obtain ⟨d1, d2, d3, d4, d5, d6, d7, d8, d9, d10⟩ := id W1.1
  have kE := (wEp_ok a7).1
  have kl := (wEp_ok a7).2
  obtain ⟨x, As, hc⟩ := cutT_ex kE.1
  obtain ⟨vx, kA⟩ := okE_cut hc kE
  have hcE := cM_e hw hem (Nat.le_refl hm) hmhi
  have hOz : O1 + A0.length ≤ 60000 * (b + 1) := nu17 q7 hcE (cM_add hle (Nat.le_of_lt hehi)) kl t6
  refine Tot.imp (Tot.mono (by omega) (s_225 (d := 0) (b := b) (p := p0) (l := A0.length) (O := O1) (lo := e) (hi := e + 1) (S := S1) (P := P1) (E := E) d5 d6 hb h1 (by omega) (Nat.le_refl _) (by omega) a2 a3 kl (by omega) q3 hOz)) ?_
  rintro v s3 ⟨rfl, F3, z85, z271, z272, zsg, z264, zr⟩
  have F3' : TFr tK b e (e + 1) S1 P1 E O1 s1 s3 := TF_mo F3 (by decide) (Nat.le_refl _) (Nat.le_refl _) (Nat.le_refl _) (Nat.le_refl _) (Nat.le_refl _) (Nat.le_refl _)
  have e38 : s3.1 8 = s1.1 8 := F3.1 8 (by decide)
  have f3 : f8 s1 s3 := f8_eq f1.1 e38
  have W3 : TW own b n W N T F H S0 G fo S1 (O1 + A0.length) P1 E s3 := TW_fr W1 F3' (by decide) (fun z z1 z2 => t4 z (by omega) (by omega)) f3.1 (by rw [F3.1 64 (by decide)]; exact q1) (by rw [F3.1 70 (by decide)]; exact q70) (by rw [F3.1 65 (by decide)]; exact q2) (by omega) (Nat.le_refl _) (Nat.le_trans hz2 t5) (Nat.le_add_right _ _) hP0
  have sg3 : sg s3 O1 A0.length = A0 := by rw [zsg]; exact a4
  have seg3 : seg s3 p0 A0.length = A0 := by
    refine Eq.trans (seg_eq (s := s1) (fun i _ _ => ?_)) a4
    rw [z264]
  have ex : tyE s3 p0 = x := by rw [← seg3] at hc; exact (cut_len hc).2
  have e80 : s3.1 80 = s1.1 80 := F3.1 80 (by decide)
  have tp := W3.1.2.2.2.2.1 p0
  have tpI : (s3.2.1 264 p0).toInt = (x : Int) := by unfold tyE at ex; omega
  refine ⟨rfl, ?_⟩
  rw [e80, show (s1.1 80).toInt.toNat = p0 by omega]
  refine ⟨by omega, ?_⟩
  refine Tot.imp (Tot.mono (by omega) (s_185 (d := 0) tp.1)) ?_
  rintro v s5 ⟨es, x7, rfl, hx7⟩
  have es := es.symm
  subst es
  refine ⟨x7, rfl, fun hlt => ?_, fun hge => ⟨by omega, ?_⟩⟩
  · have hxG : x / 8 < gT G := by
      rcases vx with w | w
      · exact w.1
      · omega
    exact m33 (O2 := O1 + A0.length) (P2 := P1) (ps := p0) (ls := A0.length) (M := A0) (x := x) (As := As) ih hd hM hY h230 h226 F3' f3 W3 (Nat.le_add_right _ _) (Nat.add_le_add_left kl _) (Nat.le_refl _) (Nat.le_add_right _ _) z271 z272 (Nat.le_refl _) sg3 (Or.inl ⟨⟨x, As, hc, by omega⟩, rfl⟩) hc kE hxG seg3 a5 a6 h1 a2
  · refine Tot.imp (Tot.mono (by omega) (s_185 (d := 0) tp.1)) ?_
    rintro v s9 ⟨es, x9, rfl, hx9⟩
    have es := es.symm
    subst es
    have hsc : x % 8 = 0 ∧ scX G fo (x / 8) ∧ 1000 ≤ x / 8 := by
      rcases vx with w | w
      · omega
      · exact ⟨w.1, w.2.2, w.2.1⟩
    obtain ⟨j1, j2, j3, j4, j5, j6, j7, j8, j9, j10⟩ := id W3.1
    obtain ⟨o1, o2, o3, z, Zs, o4, o5, o6⟩ := scX_C j9 gF' W3.2.2.2.1 _ hsc.2.1
    obtain ⟨rH, rD, rF⟩ := RSx_of (fun q i hv => SYo_SY (j2 q i hv))
    refine ⟨x9, rfl, ?_⟩
    refine Tot.imp (Tot.mono (by omega) (s_194 (e := 0) (P := P1) (E := E) (code := x / 8) j1 rH rD j5 j6 j7 W3.2.2.2.2.1 (Nat.le_trans (by decide) hP0) (Nat.le_trans hP9 (by decide)) W3.2.2.2.2.2.1 (by omega) (by omega) j3 (by rw [j8]; exact o1))) ?_
    rintro v s11 ⟨rfl, hBF, K, Q, m1, m2, m3, m4, m5, m6, b1, m7⟩
    rw [j8, bdT_b1 (b2 := 0)] at m7
    have X11 : XF [64, 71, 72] P1 E s3 s11 := hBF
    have F11 : TFr tK b e (e + 1) S1 P1 E O1 s1 s11 := TF_tr F3' (TF_xf (b := b) (lo := e) (hi := e + 1) (S := S1) (O := O1 + A0.length) X11) (by decide) (Nat.le_refl _) (Nat.le_refl _) (Nat.le_refl _) (Nat.le_refl _) (Nat.le_refl _) (Nat.le_add_right _ _)
    have f11 : f8 s1 s11 := f8_tr f3 (f8_eq f3.1 (X11.1 8 (by decide)))
    have hQ0 : 100000 ≤ Q := Nat.le_trans hP0 m1
    have W11 : TW own b n W N T F H S0 G fo S1 (O1 + A0.length) (Q + K) E s11 := TW_fr W3 (TF_mo (TF_xf (b := b) (lo := e) (hi := e) (S := S1) (O := O1 + A0.length) X11) (ks := tK) (by decide) (Nat.le_refl _) (Nat.le_refl _) (Nat.le_refl _) (Nat.le_refl _) (Nat.le_refl _) (Nat.le_refl _)) (by decide) (fun z z1 z2 => by omega) f11.1 (by omega) (by rw [X11.1 70 (by decide)]; exact W3.2.2.2.2.2.1) (by rw [X11.1 65 (by decide)]; exact W3.2.2.2.2.2.2.1) (by rw [X11.1 85 (by decide)]; exact W3.2.2.2.2.2.2.2.1) (Nat.le_refl _) (Nat.le_trans hz2 t5) (Nat.le_refl _) (Nat.le_trans hQ0 (Nat.le_add_right _ _))
    have hge' : 1000 ≤ x / 8 := hsc.2.2
    have hA1 : As = [] := List.length_eq_zero_iff.mp (by rw [hc.2.2]; exact hsc.1)
    have hA0 : A0 = [8 * (x / 8)] := by
      rw [hc.1, hA1, nu19 hsc.1]
      rfl
    refine ⟨rfl, m33 (O2 := O1 + A0.length) (P2 := Q + K) (ps := Q) (ls := K) (M := bdT G 0 (x / 8)) (x := z) (As := Zs) ih hd hM hY h230 h226 F11 f11 W11 (Nat.le_add_right _ _) (Nat.add_le_add_left kl _) (Nat.le_trans m1 (Nat.le_add_right _ _)) (nu18 m2 m3) (by rw [XF_row X11 (by decide)]; exact z271) (by rw [XF_row X11 (by decide)]; exact z272) (Nat.le_refl _) ?_ (Or.inr ⟨x / 8, hge', hA0, rfl⟩) o4 o2 o5 m7 (Or.inr hQ0) (Nat.le_refl _) h1 m4⟩
    rw [sg_eq (s := s3) (fun i _ _ => by rw [XF_row X11 (by decide)])]
    exact sg3
end TM7
