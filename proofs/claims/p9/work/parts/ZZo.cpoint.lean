/-! ===== the class: behindPoint ===== -/
section ZZPO
variable {K L W ar kd : Int → Int} {TN Ls : List Int} {n lo hi lo' hi' B b β0 β1 k0 T T0 k a nT : Int} {S : Scp} {d P m : Nat} {s s' w u : zS} {a1 a2 : Int32} {A : List Int} {R : Int × List Int}
theorem BD_plz (hP : P = 3 ∨ P = 39) (h : BDz s) (x : Int32) : 0 ≤ (zg s (P + 6) x).toInt ∧ (zg s (P + 6) x).toInt ≤ 5000 := by
  have e : ∀ i, 0 ≤ (s.2 (P + 6) i).toInt ∧ (s.2 (P + 6) i).toInt ≤ 5000 := fun i => by
    rcases hP with rfl | rfl
    · have := h.1 9 (by decide +kernel) i
      rw [show ckR 9 = (0, 5000) by decide +kernel] at this
      exact this
    · have := h.1 45 (by decide +kernel) i
      rw [show ckR 45 = (0, 5000) by decide +kernel] at this
      exact this
  unfold zg
  split
  · exact e _
  · decide
theorem CPz_p {t e : Int} {r : Int32} {C : List Ins} (F : CFe P T k s u) (h1 : u.1 (P + 34) 2 = s.1 (P + 34) 2) (h2 : u.2 (P + 34) = s.2 (P + 34)) (h : CPz ar nT S P T k t e R C u s' r) : CPz ar nT S P T k t e R C s s' r := ⟨h.1, fun z => ⟨CFe_tr F (h.2 z).1 (Int.le_refl _) (Int.le_refl _), (h.2 z).2.1, ⟨CDx_l F h1 h2 (h.2 z).2.2.1.1, (h.2 z).2.2.1.2⟩, (h.2 z).2.2.2⟩⟩
/-- the code, behind a fault -/
theorem zs_8z {Cd : List Ins} {s2 : zS} {x3 : Int32} {e : Int} (hP : P = 3 ∨ P = 39) (hkk : -1000 ≤ (s2.1 P 10).toInt ∧ (s2.1 P 10).toInt ≤ 100000) (hw : (w.1 P 14).toInt = R.1) (hR0 : ¬ R.1 = 0) : v_8_106 (fun j => Zt (d + 6 + 8) (wd P j) j) P a1 a2 (s.1 84 5) x3 (s2.1 P 10) w (fun v s' => ∃ r : Int32, v = some (.int r) ∧ CPz ar nT S P T k a e R Cd s s' r ∧ (R.1 = 0 → T ≤ r.toInt)) := by
  unfold v_8_106
  refine Zt_bd (fun hB => Zt.imp (Zt.mo (d := 9) (by omega) (zs_59 (d := 0) hP (by decide) hkk (by have := BD_plz hP hB (s.1 84 5); omega) (by decide) (by decide) (by decide))) ?_)
  rintro v1 s3 ⟨rfl, g3⟩
  exact ⟨rfl, _, rfl, ⟨by rw [g3.2 P 14 (fun z => absurd z.2 (by decide))]; exact hw, fun z => absurd z hR0⟩, fun z => absurd z hR0⟩
set_option maxHeartbeats 2000000 in
/-- the code, no fault -/
theorem zs_8g {Cd : List Ins} {s2 s10 : zS} {x3 : Int32} {e kA : Int} {D : List Int} (hP : P = 3 ∨ P = 39) (F2 : CFe P T k s s2) (F10 : CFe P T k s2 s10) (eL : KI (s2.2 (P + 6)) = L) (hat : (s.1 84 5).toInt = a) (c21 : s2.1 (P + 34) 2 = s.1 (P + 34) 2) (c22 : s2.2 (P + 34) = s.2 (P + 34)) (c101 : s10.1 (P + 34) 2 = s2.1 (P + 34) 2) (c102 : s10.2 (P + 34) = s2.2 (P + 34)) (hz2 : SZc P s2 a) (hk22 : (s2.1 P 10).toInt = k) (hkA : kA = k + (D.length : Int)) (hk1 : 18738 ≤ k ∧ k ≤ 82800) (w10 : WDz P s10 k D) (hTD : TYc ar nT (S.2.1.length : Int) (S.1.length : Int) P T kA s10 k D) (hCd : Cd = [(6, D, L a, [], 0)]) (hLa : 0 ≤ L a ∧ L a ≤ 4000) (hae : a + 4 ≤ e ∧ a < 4000) (hT : 18 ≤ T ∧ T ≤ 5000) (hDl : D.length ≤ 60) (Fw : CFe P T kA s10 w) (y1 : (w.1 P 14).toInt = 0) (y2 : (w.1 84 5).toInt = e) (y3 : (w.1 75 3).toInt = T) (y4 : (w.1 P 10).toInt = kA) (y5 : w.1 (P + 34) 2 = s10.1 (P + 34) 2) (y6 : w.2 (P + 34) = s10.2 (P + 34)) (eR : R = (0, D)) : v_8_106 (fun j => Zt (d + 6 + 8) (wd P j) j) P a1 a2 (s.1 84 5) x3 (s2.1 P 10) w (fun v s' => ∃ r : Int32, v = some (.int r) ∧ CPz ar nT S P T k a e R Cd s s' r ∧ (R.1 = 0 → T ≤ r.toInt)) := by
  unfold v_8_106
  have eLw : KI (w.2 (P + 6)) = L := by rw [CFe_r Fw (by decide) hP, CFe_r F10 (by decide) hP]; exact eL
  have epl : (zg w (P + 6) (s.1 84 5)).toInt = L a := by rw [zg_K, eLw, hat]
  have hzw : SZc P w a := SZc_1 (y5.trans c101) hz2
  refine Zt.imp (Zt.mo (d := 9) (by omega) (zs_59c (d := 0) (k := kA) (t := a) (I := (6, D, L a, [], 0)) hP (by decide) (by omega) (by rw [epl]; omega) (by decide) (by decide) (by decide) hzw (by omega) (fun s' Ds' pc cc => inz_6 (by rw [hk22, epl] at cc; exact cc) ⟨hk1.1, by omega, CFe_wd (CFe_tr (t := T) (k := kA) Fw (CFe_df hP Ds') (Int.le_refl _) (Int.le_refl _)) (by omega) (Or.inr ⟨hk1.1, by omega⟩) w10⟩))) ?_
  rintro v1 s3 ⟨rfl, g3', cd3⟩
  have f3 : ∀ c q, ¬ q = 2 → s3.1 c q = w.1 c q := fun c q hq => g3'.2 c q (fun z => hq z.2)
  have F3 : CFe P T kA s10 s3 := CFe_tr Fw (CFe_df hP g3') (Int.le_refl _) (Int.le_refl _)
  refine ⟨rfl, _, rfl, ?_, fun _ => by omega⟩
  rw [eR]
  refine ⟨by rw [f3 P 14 (by decide)]; exact y1, fun _ => ⟨CFe_tr (CFe_tr F2 F10 (Int.le_refl _) (Int.le_refl _)) F3 (Int.le_refl _) (by omega), by rw [f3 84 5 (by decide)]; exact y2, ⟨?_, ?_⟩, T, kA, ⟨by rw [f3 75 3 (by decide)]; exact y3, Int.le_refl _, by omega⟩, ⟨by rw [f3 P 10 (by decide)]; exact y4, by omega, by omega⟩, ?_⟩⟩
  · rw [f3 P 10 (by decide), y4, hCd]
    exact CDx_l (k := k) (T := T) (CFe_tr (CFe_tr F2 F10 (Int.le_refl _) (Int.le_refl _)) Fw (Int.le_refl _) (by omega)) (y5.trans (c101.trans c21)) (y6.trans (c102.trans c22)) cd3
  · rw [hCd]
    show ((1 : Nat) : Int) ≤ _
    omega
  rw [hk22]
  exact TYc_e F3 hTD (Int.le_refl _) (Int.le_refl _)
set_option maxHeartbeats 4000000 in
/-- .( TYPE ) -/
theorem zs_8a (hP : P = 3 ∨ P = 39) (hW : EWd K L W ar kd TN Ls n lo' hi' B b β0 β1 S) (hm : m ≤ 10) (ih : C7 K L W ar kd TN Ls n k0 S P lo hi T0 m (d + 11)) (hd : 11 ≤ d) (I : CIn K L W ar kd TN Ls n k0 S P lo hi T0 s) (l1 : S.1.length ≤ 6) (l2 : S.2.1.length ≤ 6) (hT0 : 18 ≤ T0) (hf0 : (s.1 P 14).toInt = 0) (hat : (s.1 84 5).toInt = a) (ha0 : 0 ≤ a) (hPO : POk K L m a) (hn : aPt K L a ≤ n) (hlo : lo ≤ a) (hhi : aPt K L a ≤ hi) (ht : (s.1 75 3).toInt = T) (hT : T0 ≤ T ∧ T ≤ 5000 - 100 * (m : Int)) (hk : (s.1 P 10).toInt = k) (hk0 : k0 ≤ k) (hk1 : 18738 ≤ k) (hk2 : k + 15 * (aPt K L a - a) ≤ 82800) (hA : TYc ar (TN.length : Int) (S.2.1.length : Int) (S.1.length : Int) P T k s a1.toInt A) (h2 : a2.toInt = 10 - (m : Int)) (hz : SZc P s a) (w40 : K (a + 1) = 40) : Zt (d + 15) (wd P 8) 8 [.ref 84, .int a1, .int a2] s (fun v s' => ∃ r : Int32, v = some (.int r) ∧ CPz ar (TN.length : Int) S P T k a (aPt K L a) (exO K L W ar kd TN Ls S (exE6 K L W ar kd TN Ls S m) a A) (ciO K L W ar TN Ls S (ciE K L W ar kd TN Ls S m) a A) s s' r ∧ ((exO K L W ar kd TN Ls S (exE6 K L W ar kd TN Ls S m) a A).1 = 0 → T ≤ r.toInt)) := by
  have h := hW.1
  obtain ⟨ha, h24⟩ := PR_ar h
  have hnn := h.1.1.1
  have hnT := PR_nT h
  have hc24 := h.2.2.1
  obtain ⟨hK46, po2, po3⟩ := id hPO
  obtain ⟨po1, poC, poT, poM⟩ := POk_o hm hPO
  have hLa := h.1.1.2.2 a ha0 (by omega)
  obtain ⟨ev, hev⟩ : ∃ ev, ev = exE6 K L W ar kd TN Ls S m := ⟨_, rfl⟩
  rw [← hev]
  obtain ⟨R, hR⟩ : ∃ R, R = exO K L W ar kd TN Ls S ev a A := ⟨_, rfl⟩
  rw [← hR]
  obtain ⟨Cd, hCd⟩ : ∃ Cd, Cd = ciO K L W ar TN Ls S (ciE K L W ar kd TN Ls S m) a A := ⟨_, rfl⟩
  rw [← hCd]
  rw [show d + 15 = d + 6 + 9 by omega]
  refine zc_8 hP ?_
  unfold v_8_0
  intro x1 hx1 s2 hs2
  have ex1 := hx1 (by omega)
  have F2 : CFe P T k s s2 := by rw [hs2]; exact CFe_f (Or.inr (Or.inr ⟨rfl, rfl⟩))
  have g2 : ∀ c q, ¬ (c = 84 ∧ q = 5) → s2.1 c q = s.1 c q := fun c q hq => by rw [hs2, zf_1, if_neg hq]
  have at2 : (s2.1 84 5).toInt = a + 1 := by rw [hs2, zf_1, if_pos ⟨rfl, rfl⟩, ex1, hat]
  have hf2 : (s2.1 P 14).toInt = 0 := by rw [g2 P 14 (fun z => absurd z.2 (by decide))]; exact hf0
  have hT2 : (s2.1 75 3).toInt = T := by rw [g2 75 3 (fun z => absurd z.1 (by decide))]; exact ht
  have hk22 : (s2.1 P 10).toInt = k := by rw [g2 P 10 (fun z => absurd z.2 (by decide))]; exact hk
  have I2 := CIn_e hP hT0 hT.1 hk0 F2 I
  have c21 : s2.1 (P + 34) 2 = s.1 (P + 34) 2 := g2 _ _ (by omega)
  have c22 : s2.2 (P + 34) = s.2 (P + 34) := by rw [hs2]; rfl
  have hz2 : SZc P s2 a := SZc_1 c21 hz
  have hA2 := TYc_e F2 hA (Int.le_refl _) (Int.le_refl _)
  clear hs2
  have eK : KI (s2.2 (P + 4)) = K := I2.1.1.1.1
  have eL : KI (s2.2 (P + 6)) = L := I2.1.1.1.2.1
  rw [zg_K, eK, at2]
  refine ⟨fun _ => ?_, fun w => absurd w40 w⟩
  obtain ⟨pp, pe⟩ := po2 w40
  obtain ⟨pc1, pc2⟩ := poC w40
  have hp10 := pt_10 hm pp
  have hLa2 := h.1.1.2.2 (a + 2) (by omega) (by omega)
  have eRA : R = exA K L W ar kd TN Ls S a A := by
    rw [hR]
    exact if_pos w40
  obtain ⟨c, A', rfl⟩ := TYc_ne hA2
  have hc := hA2.2.2.2.2 c List.mem_cons_self
  have ec : (zg s2 (P + 18) a1).toInt = c := by
    rw [zg_K]
    exact TYc_hd hA2
  have hzk := (zInf_k I2.1.1.2.2.1 I2.1.1.2.2.2 (x := zg s2 (P + 18) a1) (by omega)).2
  rw [ec] at hzk
  refine ⟨fun z0 x3 hx3 => ?_, fun z0 => ?_⟩
  · have hkn : ¬ kd c = 1 := hzk.mp z0
    have ex3 := hx3 (by omega)
    unfold exA at eRA
    rw [show (c :: A').headD 0 = c from rfl, if_neg hkn] at eRA
    obtain ⟨D, hD⟩ : ∃ D, D = wdC K L W ar TN S.1 S.2.1 (a + 2) := ⟨_, rfl⟩
    obtain ⟨G, hG⟩ : ∃ G, G = slG K L W ar (mvD K L W ar kd TN Ls) (Bfd K L W ar TN Ls) S.2.2.1 TN S.1 S.2.1 (a + 2) := ⟨_, rfl⟩
    refine Zt.imp (Zt.mo (d := 22) (by omega) (t_132 (d := 0) (a1 := x3) (a2 := 1) (t := a + 2) (k := k) hP h I2 hf2 (by omega) (by decide) (by omega) hp10 (by omega) (by omega) (by omega) hk22 hk1 (by omega))) ?_
    rintro v4 s5 ⟨x6, rfl, q1, q2, q3⟩
    refine ⟨x6, rfl, fun x7 hx7 s8 hs8 => ?_⟩
    have e14 : s8.1 P 14 = s5.1 P 14 := by rw [hs8, zf_1, if_neg (fun z => absurd z.2 (by decide))]
    have e10 : s8.1 P 10 = s5.1 P 10 := by rw [hs8, zf_1, if_neg (fun z => absurd z.2 (by decide))]
    have hkk : -1000 ≤ (s2.1 P 10).toInt ∧ (s2.1 P 10).toInt ≤ 100000 := by omega
    have bad : ∀ (w : zS), (w.1 P 14).toInt = R.1 → ¬ R.1 = 0 → v_8_106 (fun j => Zt (d + 6 + 8) (wd P j) j) P a1 a2 (s.1 84 5) x3 (s2.1 P 10) w (fun v s' => ∃ r : Int32, v = some (.int r) ∧ CPz ar (TN.length : Int) S P T k a (aPt K L a) R Cd s s' r ∧ (R.1 = 0 → T ≤ r.toInt)) := fun w hw hR0 => zs_8z hP hkk hw hR0
    by_cases w1 : (tlT K L (cdOf W S.1 S.2.1 TN) ar 10 (a + 2)).1 = 0
    · obtain ⟨r1, r2, r3, r4, r5⟩ := q3 w1
      have hxT : exT K L W ar kd TN Ls S (a + 2) = (ffs G, D) := by
        unfold exT
        rw [if_pos w1, hG, hD]
      rw [hxT] at eRA
      have hDl : ((tlT K L (cdOf W S.1 S.2.1 TN) ar 10 (a + 2)).2.length : Int) = (D.length : Int) := by
        rw [hD]
        unfold wdC
        rw [List.length_map]
      rw [hDl] at r1 r5
      have ex7 := hx7 (by omega)
      have F5 : CFe P T k s2 s5 := CFe_tl q1 (by omega) hk1
      have F8 : CFe P T k s2 s8 := by
        rw [hs8]
        exact CFe_tr F5 (CFe_f (Or.inr (Or.inr ⟨rfl, rfl⟩))) (Int.le_refl _) (Int.le_refl _)
      have I8 := CIn_e hP hT0 hT.1 hk0 F8 I2
      obtain ⟨o1, o2, o3, o4, o5⟩ := wdC_ok (K := K) (L := L) (W := W) ha l1 l2 (by omega) w1 hp10
      rw [← hD] at o1 o2 o3 o4 o5
      have hst : s8.2 = s5.2 := by rw [hs8]; rfl
      have w8 : WDz P s8 k D := by
        intro i c hc
        rw [hst]
        exact r2 i c (by rw [hD] at hc; exact hc)
      have f8 : ∀ c q, ¬ (c = P ∧ (q = 10 ∨ q = 14)) → ¬ (c = 84 ∧ q = 5) → s8.1 c q = s2.1 c q := fun c q z1 z2 => by rw [hs8, zf_1, if_neg z2, q1.1 c q z1]
      have hT8 : (s8.1 75 3).toInt = T := by rw [f8 75 3 (fun z => by omega) (by decide)]; exact hT2
      have hfl : ([a + 2].map (wdC K L W ar TN S.1 S.2.1)).flatten = D := by
        rw [List.map_cons, List.map_nil, List.flatten_cons, List.flatten_nil, List.append_nil, hD]
      refine Zt.imp (Zt.mo (d := 12) (by omega) (t_135 (d := 0) (T := T) (ys := [a + 2]) hP h I8 l1 l2 (by rw [e14, q2]; exact w1) hT8 ⟨by omega, by omega⟩ (Nat.le_of_ble_eq_true rfl) (fun y hy => by rw [List.mem_singleton.mp hy]; exact ⟨w1, hp10, by omega, by omega⟩) (by rw [hfl, hk22]; exact w8) (fun i v hv => ?_) (by rw [hfl, hk22]; exact ⟨hk1, by omega⟩) (by rw [hfl, hk22, e10]; exact r1))) ?_
      · rw [List.flatMap_cons, List.flatMap_nil, List.append_nil] at hv
        rw [hst, hk22]
        exact r3 i v hv
      rintro v9 s10 ⟨rfl, g1, g3, g4⟩
      refine ⟨rfl, ?_⟩
      rw [List.flatMap_cons, List.flatMap_nil, List.append_nil, ← hG] at g4
      have F10 : CFe P T k s2 s10 := CFe_tr F8 (CFe_rz hP g1 (fun b q _ z => g3 b q z)) (Int.le_refl _) (Int.le_refl _)
      have I10 := CIn_e hP hT0 hT.1 hk0 F10 I2
      have f10 : ∀ c q, ¬ (c = P ∧ (q = 10 ∨ q = 14)) → ¬ (c = 84 ∧ q = 5) → s10.1 c q = s2.1 c q := fun c q z1 z2 => by rw [g3 c q (fun z => z1 ⟨z.1, Or.inr z.2⟩), f8 c q z1 z2]
      obtain ⟨kA, hkA⟩ : ∃ kA, kA = k + (D.length : Int) := ⟨_, rfl⟩
      have hk10 : (s10.1 P 10).toInt = kA := by rw [g3 P 10 (fun z => absurd z.2 (by decide)), e10, hkA]; exact r1
      have at10 : (s10.1 84 5).toInt = aPt K L a := by
        rw [g3 84 5 (fun z => absurd z.2 (by decide)), hs8, zf_1, if_pos ⟨rfl, rfl⟩, pe]
        omega
      have hT10 : (s10.1 75 3).toInt = T := by rw [f10 75 3 (fun z => by omega) (by decide)]; exact hT2
      have c101 : s10.1 (P + 34) 2 = s2.1 (P + 34) 2 := f10 _ _ (by omega) (by omega)
      have c102 : s10.2 (P + 34) = s2.2 (P + 34) := by rw [g1.1 _ (by omega) (by omega) (by omega) (by omega), hst, q1.2.1 _ (by omega) (by omega)]
      have w10 : WDz P s10 k D := by
        intro i c hc
        have hi := (List.getElem?_eq_some_iff.mp hc).1
        have := w8 i c hc
        rw [← this, KI_p (by omega), KI_p (by omega), g1.2 _ (Or.inr (by omega))]
      have hTD : TYc ar (TN.length : Int) (S.2.1.length : Int) (S.1.length : Int) P T kA s10 k D := ⟨⟨by omega, Or.inr ⟨hk1, by omega⟩⟩, w10, o1, ⟨o2, o4⟩, o3⟩
      obtain ⟨cd, D', eD⟩ := TYc_ne hTD
      have ecd : (zg s10 (P + 18) (s2.1 P 10)).toInt = cd := by
        rw [zg_K, hk22]
        rw [eD] at hTD
        exact TYc_hd hTD
      have hcd := o3 cd (by rw [eD]; exact List.mem_cons_self)
      have hzk2 := (zInf_k I10.1.1.2.2.1 I10.1.1.2.2.2 (x := zg s10 (P + 18) (s2.1 P 10)) (by omega)).2
      rw [ecd] at hzk2
      have good : ∀ (w : zS), CFe P T kA s10 w → (w.1 P 14).toInt = 0 → (w.1 84 5).toInt = aPt K L a → (w.1 75 3).toInt = T → (w.1 P 10).toInt = kA → w.1 (P + 34) 2 = s10.1 (P + 34) 2 → w.2 (P + 34) = s10.2 (P + 34) → R = (0, D) → v_8_106 (fun j => Zt (d + 6 + 8) (wd P j) j) P a1 a2 (s.1 84 5) x3 (s2.1 P 10) w (fun v s' => ∃ r : Int32, v = some (.int r) ∧ CPz ar (TN.length : Int) S P T k a (aPt K L a) R Cd s s' r ∧ (R.1 = 0 → T ≤ r.toInt)) := fun w Fw y1 y2 y3 y4 y5 y6 eR => zs_8g hP F2 F10 eL hat c21 c22 c101 c102 hz2 hk22 hkA ⟨hk1, by omega⟩ w10 hTD (by rw [hCd]; unfold ciO; rw [if_pos w40, ← hD]) hLa ⟨by omega, by omega⟩ ⟨by omega, by omega⟩ o2 Fw y1 y2 y3 y4 y5 y6 eR
      refine ⟨fun z1 => ?_, fun z1 => ?_⟩
      · rw [g4] at z1
        rw [if_neg z1] at eRA
        exact bad s10 (by rw [g4, eRA]) (by rw [eRA]; exact z1)
      · have z1' := z1
        rw [g4] at z1
        have eRA' : R = if kd cd = 1 ∧ ¬ mvD K L W ar kd TN Ls D (ownT S.2.2.1 D) (ownT S.2.2.1 (c :: A')) = 0 then (mvD K L W ar kd TN Ls D (ownT S.2.2.1 D) (ownT S.2.2.1 (c :: A')) + 16 * L (a + 2), []) else (0, D) := by
          rw [eRA, if_pos z1]
          show (if kd (D.headD 0) = 1 ∧ _ then _ else _) = _
          rw [eD]
          rfl
        refine ⟨fun z2 => ?_, fun z2 => ?_⟩
        · have hk1' : ¬ kd cd = 1 := hzk2.mp z2
          rw [if_neg (fun q => hk1' q.1)] at eRA'
          exact good s10 CFe_rf z1' at10 hT10 hk10 rfl rfl eRA'
        · have hk1' : kd cd = 1 := Decidable.byContradiction (fun q => z2 (hzk2.mpr q))
          have hA10 := TYc_e F10 hA2 (Int.le_refl _) (show k ≤ kA by omega)
          refine Zt.imp (Zt.mo (d := 9) (by omega) (t_90 (d := 0) hP hW I10 (show k0 ≤ kA by omega) hA10)) ?_
          rintro v11 s12 ⟨hs12, x13, rfl, hx13⟩
          subst hs12
          refine ⟨x13, rfl, ?_⟩
          refine Zt.imp (Zt.mo (d := 11) (by omega) (t_88 (d := 0) (k := kA) (T := T) (A := D) (Z := ownT S.2.2.1 (c :: A')) hP h I10 hT10 ⟨by omega, by omega⟩ (by omega) (by rw [hk22]; exact hTD) hx13)) ?_
          rintro v14 s15 ⟨mf, x16, rfl, e16, b16⟩
          refine ⟨x16, rfl, ?_⟩
          have F15 : CFe P T kA s12 s15 := CFe_mf hP mf
          have eL15 : KI (s15.2 (P + 6)) = L := by rw [CFe_r F15 (by decide) hP, CFe_r F10 (by decide) hP]; exact eL
          have e15 : (s15.1 P 14).toInt = 0 := by rw [mf.1]; exact z1'
          refine Zt.imp (Zt.mo (d := 9) (by omega) (zs_38b (d := 0) hP (by rw [eL15, ex3, show a + 1 + 1 = a + 2 by omega]; omega) (by omega))) ?_
          rintro v17 s18 ⟨rfl, hcs⟩
          refine ⟨rfl, ?_⟩
          rcases hcs with ⟨-, y2, x, hx, rfl⟩ | ⟨hcs, rfl⟩
          · rw [eL15, ex3, show a + 1 + 1 = a + 2 by omega] at hx
            rw [e16] at y2 hx
            rw [if_pos ⟨hk1', y2⟩] at eRA'
            refine bad _ (by rw [zf_1, if_pos ⟨rfl, rfl⟩, hx, eRA']) ?_
            rw [eRA']
            show ¬ mvD K L W ar kd TN Ls D (ownT S.2.2.1 D) (ownT S.2.2.1 (c :: A')) + 16 * L (a + 2) = 0
            omega
          · have y0 : x16.toInt = 0 := Decidable.byContradiction (fun q => hcs ⟨e15, q⟩)
            rw [e16] at y0
            rw [if_neg (fun q => q.2 y0)] at eRA'
            exact good s18 F15 e15 (by rw [mf.1]; exact at10) (by rw [mf.1]; exact hT10) (by rw [mf.1]; exact hk10) (by rw [mf.1]) (mf.2.1 _ (by omega) (by omega) (by omega)) eRA'
    · have hf8 : ¬ (s8.1 P 14).toInt = 0 := by rw [e14, q2]; exact w1
      have eR1 : R = ((tlT K L (cdOf W S.1 S.2.1 TN) ar 10 (a + 2)).1, []) := by
        rw [eRA]
        unfold exT
        rw [if_neg w1, if_neg w1]
      refine Zt.imp (Zt.mo (d := 9) (by omega) (zs_135x (d := 0) hP hf8)) ?_
      rintro v9 s10 ⟨rfl, hs10⟩
      subst hs10
      exact ⟨rfl, fun _ => bad s10 (by rw [e14, q2, eR1]) (by rw [eR1]; exact w1), fun z => absurd z hf8⟩
  · have hk1' : kd c = 1 := Decidable.byContradiction (fun q => z0 (hzk.mpr q))
    have eR1 : R = (6 + 16 * L a, []) := by
      rw [eRA]
      unfold exA
      rw [show (c :: A').headD 0 = c from rfl, if_pos hk1']
    refine Zt.imp (Zt.mo (d := 9) (by omega) (zs_38b (d := 0) hP (by rw [eL, hat]; omega) (by decide))) ?_
    rintro v19 s20 ⟨rfl, hcs⟩
    refine ⟨rfl, a1, rfl, ?_⟩
    rw [eR1]
    rcases hcs with ⟨-, -, x, hx, rfl⟩ | ⟨hcs, -⟩
    · rw [eL, hat, show (6 : Int32).toInt = 6 by decide] at hx
      exact ⟨CPz_f (by rw [zf_1, if_pos ⟨rfl, rfl⟩, hx]) (by omega), fun z => by have z : 6 + 16 * L a = 0 := z; omega⟩
    · exact absurd ⟨hf2, by decide⟩ hcs
set_option maxHeartbeats 4000000 in
/-- a METHOD, a FIELD -/
theorem zs_8b (hP : P = 3 ∨ P = 39) (hW : EWd K L W ar kd TN Ls n lo' hi' B b β0 β1 S) (hm : m ≤ 10) (ih : C7 K L W ar kd TN Ls n k0 S P lo hi T0 m (d + 11)) (hd : 11 ≤ d) (I : CIn K L W ar kd TN Ls n k0 S P lo hi T0 s) (l1 : S.1.length ≤ 6) (l2 : S.2.1.length ≤ 6) (hT0 : 18 ≤ T0) (hf0 : (s.1 P 14).toInt = 0) (hat : (s.1 84 5).toInt = a) (ha0 : 0 ≤ a) (hPO : POk K L m a) (hn : aPt K L a ≤ n) (hlo : lo ≤ a) (hhi : aPt K L a ≤ hi) (ht : (s.1 75 3).toInt = T) (hT : T0 ≤ T ∧ T ≤ 5000 - 100 * (m : Int)) (hk : (s.1 P 10).toInt = k) (hk0 : k0 ≤ k) (hk1 : 18738 ≤ k) (hk2 : k + 15 * (aPt K L a - a) ≤ 82800) (hA : TYc ar (TN.length : Int) (S.2.1.length : Int) (S.1.length : Int) P T k s a1.toInt A) (h2 : a2.toInt = 10 - (m : Int)) (hz : SZc P s a) (w40 : ¬ K (a + 1) = 40) : Zt (d + 15) (wd P 8) 8 [.ref 84, .int a1, .int a2] s (fun v s' => ∃ r : Int32, v = some (.int r) ∧ CPz ar (TN.length : Int) S P T k a (aPt K L a) (exO K L W ar kd TN Ls S (exE6 K L W ar kd TN Ls S m) a A) (ciO K L W ar TN Ls S (ciE K L W ar kd TN Ls S m) a A) s s' r ∧ ((exO K L W ar kd TN Ls S (exE6 K L W ar kd TN Ls S m) a A).1 = 0 → T ≤ r.toInt)) := by
  have h := hW.1
  obtain ⟨ha, h24⟩ := PR_ar h
  have hnn := h.1.1.1
  have hnT := PR_nT h
  have hc24 := h.2.2.1
  obtain ⟨hK46, po2, po3⟩ := id hPO
  obtain ⟨po1, poC, poT, poM⟩ := POk_o hm hPO
  have hLa := h.1.1.2.2 a ha0 (by omega)
  obtain ⟨ev, hev⟩ : ∃ ev, ev = exE6 K L W ar kd TN Ls S m := ⟨_, rfl⟩
  rw [← hev]
  obtain ⟨R, hR⟩ : ∃ R, R = exO K L W ar kd TN Ls S ev a A := ⟨_, rfl⟩
  rw [← hR]
  obtain ⟨Cd, hCd⟩ : ∃ Cd, Cd = ciO K L W ar TN Ls S (ciE K L W ar kd TN Ls S m) a A := ⟨_, rfl⟩
  rw [← hCd]
  rw [show d + 15 = d + 6 + 9 by omega]
  refine zc_8 hP ?_
  unfold v_8_0
  intro x1 hx1 s2 hs2
  have ex1 := hx1 (by omega)
  have F2 : CFe P T k s s2 := by rw [hs2]; exact CFe_f (Or.inr (Or.inr ⟨rfl, rfl⟩))
  have g2 : ∀ c q, ¬ (c = 84 ∧ q = 5) → s2.1 c q = s.1 c q := fun c q hq => by rw [hs2, zf_1, if_neg hq]
  have at2 : (s2.1 84 5).toInt = a + 1 := by rw [hs2, zf_1, if_pos ⟨rfl, rfl⟩, ex1, hat]
  have hf2 : (s2.1 P 14).toInt = 0 := by rw [g2 P 14 (fun z => absurd z.2 (by decide))]; exact hf0
  have hT2 : (s2.1 75 3).toInt = T := by rw [g2 75 3 (fun z => absurd z.1 (by decide))]; exact ht
  have hk22 : (s2.1 P 10).toInt = k := by rw [g2 P 10 (fun z => absurd z.2 (by decide))]; exact hk
  have I2 := CIn_e hP hT0 hT.1 hk0 F2 I
  have c21 : s2.1 (P + 34) 2 = s.1 (P + 34) 2 := g2 _ _ (by omega)
  have c22 : s2.2 (P + 34) = s.2 (P + 34) := by rw [hs2]; rfl
  have hz2 : SZc P s2 a := SZc_1 c21 hz
  have hA2 := TYc_e F2 hA (Int.le_refl _) (Int.le_refl _)
  clear hs2
  have eK : KI (s2.2 (P + 4)) = K := I2.1.1.1.1
  have eL : KI (s2.2 (P + 6)) = L := I2.1.1.1.2.1
  rw [zg_K, eK, at2]
  refine ⟨fun w => absurd w w40, fun _ x21 hx21 => ?_⟩
  have ex21 := hx21 (by omega)
  obtain ⟨pk1, -, -, pkF⟩ := po3 w40
  have eR0 : R = if K (a + 2) = 91 ∨ K (a + 2) = 40 then exM K L W ar kd TN Ls S ev a A else exF K L W ar kd TN Ls a A := by
    rw [hR]
    exact if_neg w40
  have meth : K (a + 2) = 91 ∨ K (a + 2) = 40 → v_8_30 (fun j => Zt (d + 6 + 8) (wd P j) j) P a1 a2 (s.1 84 5) (zg s2 (P + 4) x21) s2 (fun v s' => ∃ r : Int32, v = some (.int r) ∧ CPz ar (TN.length : Int) S P T k a (aPt K L a) R Cd s s' r ∧ (R.1 = 0 → T ≤ r.toInt)) := by
    intro hb9
    rw [if_pos hb9] at eR0
    unfold v_8_30
    refine Zt.imp (zs_14 (d := d) hP hW hm ih hd I2 l1 l2 hT0 hf2 at2 ha0 hPO w40 hb9 hn hlo hhi hT2 hT hk22 hk0 hk1 hk2 hA2 h2 hz2) ?_
    rintro v1 s3 ⟨r, rfl, r1, r2⟩
    rw [← hev, ← eR0] at r1 r2
    refine ⟨r, rfl, ?_⟩
    unfold v_8_39
    have eCd : Cd = ciP (ciE K L W ar kd TN Ls S m) (exU K L (mO K L (a + 1)).2 (NM K L (a + 1))) ++ [(5, A, (NM K L (a + 1) : Int), (exY K L (a + 1)).map (fun y => wdC K L W ar TN S.1 S.2.1 y), W (a + 1))] := by
      rw [hCd]
      unfold ciO
      rw [if_neg w40, if_pos hb9]
    rw [eCd]
    exact ⟨r, rfl, CPz_p F2 c21 c22 r1, r2⟩
  have eK2 : (zg s2 (P + 4) x21).toInt = K (a + 2) := by
    rw [zg_K, eK, ex21, show a + 1 + 1 = a + 2 by omega]
  rw [eK2]
  refine ⟨fun z => meth (Or.inr z), fun z => ⟨fun z1 => ?_, fun z1 => meth (Or.inl z1)⟩⟩
  have hno : ¬ (K (a + 2) = 91 ∨ K (a + 2) = 40) := fun q => by
    rcases q with q | q
    · exact z1 q
    · exact z q
  rw [if_neg hno] at eR0
  have e := pkF hno
  refine Zt.imp (Zt.mo (d := d + 13) (by omega) (zs_12 (d := d) (k := k) hP h I2 hT0 hf2 at2 ⟨ha0, by omega⟩ hT2 ⟨hT.1, by omega⟩ hk0 hk22 (by omega) hA2 hat hz2 (by omega))) ?_
  rintro v22 s23 ⟨r, rfl, r1, r2⟩
  rw [← eR0, ← e] at r1
  rw [← eR0] at r2
  refine ⟨r, rfl, ?_⟩
  unfold v_8_39
  have eCd : Cd = [(4, [], fIx (wEq W (a + 1)) 0 (fNm K L Ls (A.headD 0)), [], 0)] := by
    rw [hCd]
    unfold ciO
    rw [if_neg w40, if_neg hno]
  rw [eCd]
  exact ⟨r, rfl, CPz_p F2 c21 c22 r1, r2⟩
theorem zs_8 (hP : P = 3 ∨ P = 39) (hW : EWd K L W ar kd TN Ls n lo' hi' B b β0 β1 S) (hm : m ≤ 10) (ih : C7 K L W ar kd TN Ls n k0 S P lo hi T0 m (d + 11)) (hd : 11 ≤ d) (I : CIn K L W ar kd TN Ls n k0 S P lo hi T0 s) (l1 : S.1.length ≤ 6) (l2 : S.2.1.length ≤ 6) (hT0 : 18 ≤ T0) (hf0 : (s.1 P 14).toInt = 0) (hat : (s.1 84 5).toInt = a) (ha0 : 0 ≤ a) (hPO : POk K L m a) (hn : aPt K L a ≤ n) (hlo : lo ≤ a) (hhi : aPt K L a ≤ hi) (ht : (s.1 75 3).toInt = T) (hT : T0 ≤ T ∧ T ≤ 5000 - 100 * (m : Int)) (hk : (s.1 P 10).toInt = k) (hk0 : k0 ≤ k) (hk1 : 18738 ≤ k) (hk2 : k + 15 * (aPt K L a - a) ≤ 82800) (hA : TYc ar (TN.length : Int) (S.2.1.length : Int) (S.1.length : Int) P T k s a1.toInt A) (h2 : a2.toInt = 10 - (m : Int)) (hz : SZc P s a) : Zt (d + 15) (wd P 8) 8 [.ref 84, .int a1, .int a2] s (fun v s' => ∃ r : Int32, v = some (.int r) ∧ CPz ar (TN.length : Int) S P T k a (aPt K L a) (exO K L W ar kd TN Ls S (exE6 K L W ar kd TN Ls S m) a A) (ciO K L W ar TN Ls S (ciE K L W ar kd TN Ls S m) a A) s s' r ∧ ((exO K L W ar kd TN Ls S (exE6 K L W ar kd TN Ls S m) a A).1 = 0 → T ≤ r.toInt)) := by
  by_cases w40 : K (a + 1) = 40
  · exact zs_8a hP hW hm ih hd I l1 l2 hT0 hf0 hat ha0 hPO hn hlo hhi ht hT hk hk0 hk1 hk2 hA h2 hz w40
  · exact zs_8b hP hW hm ih hd I l1 l2 hT0 hf0 hat ha0 hPO hn hlo hhi ht hT hk hk0 hk1 hk2 hA h2 hz w40
end ZZPO
