/-! ===== the class: method, its TYPES told ===== -/
section ZZME
variable {K L W ar kd : Int → Int} {TN Ls : List Int} {n lo hi lo' hi' B b β0 β1 k0 T T0 kw a A0 b0 co : Int} {S : Scp} {d P m N g : Nat} {s s' w : zS} {a1 a2 a3 a4 a5 a6 a7 a8 a9 a10 a11 a12 t1 t2 : Int32} {O' ys : List Int} {R : Int × List Int} {x : Nat × Nat × List (List Int)}
theorem SSz_e (hP : P = 3 ∨ P = 39) {t k : Int} (h : CFe P t k s s') {c : Int} {X : List (List Int)} (hk : SSk P s k0 c X) (hk0 : k0 ≤ k) (g : SSz ar P s c X) : SSz ar P s' c X := by
  intro j M hM
  obtain ⟨v1, v2, v3⟩ := g j M hM
  have v4 := hk j M hM
  have es : slc s' P (c + (j : Int)) 3 = slc s P (c + (j : Int)) 3 := by
    unfold slc
    rw [CFe_r h (by decide) hP]
  rw [es]
  exact ⟨v1, CFe_wd h (by omega) (Or.inr ⟨v1.1, by omega⟩) v2, v3⟩
theorem SSk_e (hP : P = 3 ∨ P = 39) {t k : Int} (h : CFe P t k s s') {c : Int} {X : List (List Int)} (hk : SSk P s k0 c X) : SSk P s' k0 c X := by
  intro j M hM
  have es : slc s' P (c + (j : Int)) 3 = slc s P (c + (j : Int)) 3 := by
    unfold slc
    rw [CFe_r h (by decide) hP]
  rw [es]
  exact hk j M hM
theorem SSz_d {c : Int} {X : List (List Int)} {q : Nat} (g : SSz ar P s c X) : SSz ar P s (c + (q : Int)) (X.drop q) := by
  intro j M hM
  rw [List.getElem?_drop] at hM
  have := g (q + j) M hM
  rw [show c + ((q + j : Nat) : Int) = c + (q : Int) + (j : Int) by omega] at this
  exact this
theorem SSk_d {c : Int} {X : List (List Int)} {q : Nat} (g : SSk P s k0 c X) : SSk P s k0 (c + (q : Int)) (X.drop q) := by
  intro j M hM
  rw [List.getElem?_drop] at hM
  have := g (q + j) M hM
  rw [show c + ((q + j : Nat) : Int) = c + (q : Int) + (j : Int) by omega] at this
  exact this
set_option maxHeartbeats 4000000 in
theorem m_126 (hP : P = 3 ∨ P = 39) (hW : EWd K L W ar kd TN Ls n lo' hi' B b β0 β1 S) (hm : m ≤ 10) (ih : C7 K L W ar kd TN Ls n k0 S P lo hi T0 m (d + 11)) (I : CIn K L W ar kd TN Ls n k0 S P lo hi T0 w) (l1 : S.1.length ≤ 6) (l2 : S.2.1.length ≤ 6) (hT0 : 18 ≤ T0) (hf0 : (w.1 P 14).toInt = 0) (ha0 : 0 ≤ a ∧ a + 1 ≤ n) (hat : t1.toInt + t2.toInt = A0) (hA0 : a + 2 ≤ A0) (hAO : AOk K L m 40 41 A0 b0) (hN : p_vn K L (p_e K L 11) 40 41 (0, A0) = N) (hn : b0 ≤ n) (hlo : lo ≤ a) (hhi : b0 ≤ hi) (ht : (w.1 75 3).toInt = T) (hT : T0 ≤ T ∧ T ≤ 5000 - 100 * (m : Int)) (hk : (w.1 P 10).toInt = kw) (hk0 : k0 ≤ kw) (hk1 : 18738 ≤ kw) (hk2 : kw + 15 * (b0 - A0 - 2) ≤ 82800) (h3 : a3.toInt = a + 1) (hO : TYc ar (TN.length : Int) (S.2.1.length : Int) (S.1.length : Int) P T kw w a4.toInt (co :: O')) (hx1 : x.1 = ys.length) (hx2 : x.2.1 = N) (hx3 : x.2.2.length = x.1 + x.2.1 + 1) (h6 : a6.toInt = (x.1 : Int)) (h7 : a7.toInt = (x.2.1 : Int)) (h8 : 0 ≤ a8.toInt ∧ a8.toInt ≤ 4000) (hSZ : SSz ar P w a8.toInt x.2.2) (hSK : SSk P w k0 a8.toInt x.2.2) (hSc : ∀ M ∈ x.2.2, cdW ((argT ar (co :: O')).length : Int) (ys.length : Int) M ∧ cdT (TN.length : Int) M) (h9 : a9.toInt = (ys.length : Int)) (hy6 : ys.length ≤ 6) (hN7 : N ≤ 7) (h10 : -1000 ≤ a10.toInt ∧ a10.toInt ≤ 100000) (h11 : 18738 ≤ a11.toInt) (h11k : a11.toInt + ((ys.map (wdC K L W ar TN S.1 S.2.1)).flatten.length : Int) = kw) (hYw : WDz P w a11.toInt (ys.map (wdC K L W ar TN S.1 S.2.1)).flatten) (htt : TTz P w a11.toInt (ys.flatMap (fun y => (tlT K L (cdOf W S.1 S.2.1 TN) ar 10 y).2.map Prod.snd))) (hys : ∀ y ∈ ys, (tlT K L (cdOf W S.1 S.2.1 TN) ar 10 y).1 = 0 ∧ (p_t K L 10 false (0, y)).1 = 0 ∧ 0 ≤ y ∧ nxT K L y ≤ n) (h2 : a2.toInt = 10 - (m : Int)) (hz : SZc P w A0) {Aa : List Int} (hak : kpz P kw w a10.toInt Aa)
    (eR : R = if ffs (ys.flatMap (fun y => slG K L W ar (mvD K L W ar kd TN Ls) (Bfd K L W ar TN Ls) S.2.2.1 TN S.1 S.2.1 y)) = 0 then (if ffs ((ys.zip x.2.2).map (fun p => ftk L (exK K L W ar kd TN Ls S (wdC K L W ar TN S.1 S.2.1 p.1) (eta (argT ar (co :: O')) (ys.map (wdC K L W ar TN S.1 S.2.1))) p.2) p.1)) = 0 then (if exP K L W ar kd TN Ls S (exE6 K L W ar kd TN Ls S m) (eta (argT ar (co :: O')) (ys.map (wdC K L W ar TN S.1 S.2.1))) ((exU K L A0 N).zip (x.2.2.drop x.1)) = 0 then (if 60 < (sbs (eta (argT ar (co :: O')) (ys.map (wdC K L W ar TN S.1 S.2.1))) (x.2.2.getD (x.1 + x.2.1) [])).length then (9 + 16 * L (a + 1), []) else (0, sbs (eta (argT ar (co :: O')) (ys.map (wdC K L W ar TN S.1 S.2.1))) (x.2.2.getD (x.1 + x.2.1) []))) else (exP K L W ar kd TN Ls S (exE6 K L W ar kd TN Ls S m) (eta (argT ar (co :: O')) (ys.map (wdC K L W ar TN S.1 S.2.1))) ((exU K L A0 N).zip (x.2.2.drop x.1)), [])) else (ffs ((ys.zip x.2.2).map (fun p => ftk L (exK K L W ar kd TN Ls S (wdC K L W ar TN S.1 S.2.1 p.1) (eta (argT ar (co :: O')) (ys.map (wdC K L W ar TN S.1 S.2.1))) p.2) p.1)), [])) else (ffs (ys.flatMap (fun y => slG K L W ar (mvD K L W ar kd TN Ls) (Bfd K L W ar TN Ls) S.2.2.1 TN S.1 S.2.1 y)), [])) :
    v_14_126 (fun j => Zt (d + 5 + 8) (wd P j) j) P a1 a2 a3 a4 a5 a6 a7 a8 a9 a10 a11 a12 t1 t2 w (fun v s' => ∃ r : Int32, v = some (.int r) ∧ (s'.1 P 14).toInt = R.1 ∧ (R.1 = 0 → CFe P T kw w s' ∧ (s'.1 84 5).toInt = b0 ∧ (CDx P (s'.1 P 10).toInt w s' (ciP (ciE K L W ar kd TN Ls S m) (exU K L A0 N) ++ [(5, Aa, (N : Int), ys.map (wdC K L W ar TN S.1 S.2.1), W (a + 1))]) ∧ ((ciP (ciE K L W ar kd TN Ls S m) (exU K L A0 N) ++ [(5, Aa, (N : Int), ys.map (wdC K L W ar TN S.1 S.2.1), W (a + 1))]).length : Int) ≤ b0 - A0 - 1) ∧ ∃ T' k', ((s'.1 75 3).toInt = T' ∧ T ≤ T' ∧ T' ≤ T + 60) ∧ ((s'.1 P 10).toInt = k' ∧ kw ≤ k' ∧ k' ≤ kw + 15 * (b0 - A0 - 2)) ∧ TYc ar (TN.length : Int) (S.2.1.length : Int) (S.1.length : Int) P T' k' s' r.toInt R.2 ∧ T ≤ r.toInt)) := by
  have h := hW.1
  obtain ⟨ha, h24⟩ := PR_ar h
  have hnn := h.1.1.1
  have hnT := PR_nT h
  have hc24 := h.2.2.1
  have oa := (AOk_o hm hAO).1
  have hLa1 := h.1.1.2.2 (a + 1) (by omega) ha0.2
  obtain ⟨Ys, hYs⟩ : ∃ Ys, Ys = ys.map (wdC K L W ar TN S.1 S.2.1) := ⟨_, rfl⟩
  rw [← hYs] at eR hYw h11k
  have hYl : Ys.length = ys.length := by rw [hYs, List.length_map]
  have hTs : TYs ar (TN.length : Int) (S.2.1.length : Int) (S.1.length : Int) P kw w a11.toInt Ys := by
    refine ⟨by omega, fun _ => ⟨h11, by omega⟩, hYw, fun y hy => ?_⟩
    rw [hYs] at hy
    obtain ⟨z, hz, rfl⟩ := List.mem_map.mp hy
    obtain ⟨z1, z2, -⟩ := hys z hz
    obtain ⟨o1, o2, o3, o4, -⟩ := wdC_ok (K := K) (L := L) (W := W) ha l1 l2 (by omega) z1 z2
    exact ⟨o1, ⟨o2, o4⟩, o3⟩
  obtain ⟨f2, hf2⟩ : ∃ f2, f2 = ffs (ys.flatMap (fun y => slG K L W ar (mvD K L W ar kd TN Ls) (Bfd K L W ar TN Ls) S.2.2.1 TN S.1 S.2.1 y)) := ⟨_, rfl⟩
  obtain ⟨f3, hf3⟩ : ∃ f3, f3 = ffs ((ys.zip x.2.2).map (fun p => ftk L (exK K L W ar kd TN Ls S (wdC K L W ar TN S.1 S.2.1 p.1) (eta (argT ar (co :: O')) Ys) p.2) p.1)) := ⟨_, rfl⟩
  obtain ⟨fP, hfP⟩ : ∃ fP, fP = exP K L W ar kd TN Ls S (exE6 K L W ar kd TN Ls S m) (eta (argT ar (co :: O')) Ys) ((exU K L A0 N).zip (x.2.2.drop x.1)) := ⟨_, rfl⟩
  rw [← hf2, ← hf3, ← hfP] at eR
  unfold v_14_126
  intro y1 hy1 s2 hs2
  have ey1 := hy1 (by omega)
  have F2 : CFe P T kw w s2 := by rw [hs2]; exact CFe_f (Or.inr (Or.inr ⟨rfl, rfl⟩))
  have g2 : ∀ c q, ¬ (c = 84 ∧ q = 5) → s2.1 c q = w.1 c q := fun c q hq => by rw [hs2, zf_1, if_neg hq]
  have at2 : (s2.1 84 5).toInt = A0 := by rw [hs2, zf_1, if_pos ⟨rfl, rfl⟩, ey1]; exact hat
  have hT2 : (s2.1 75 3).toInt = T := by rw [g2 75 3 (fun z => absurd z.1 (by decide))]; exact ht
  have hk22 : (s2.1 P 10).toInt = kw := by rw [g2 P 10 (fun z => absurd z.2 (by decide))]; exact hk
  have I2 := CIn_e hP hT0 hT.1 hk0 F2 I
  have r2 : s2.2 = w.2 := by rw [hs2]; rfl
  have r2' : s2.2 (P + 34) = w.2 (P + 34) := by rw [r2]
  refine Zt.imp (Zt.mo (d := 12) (by omega) (t_135 (d := 0) (T := T) (ys := ys) hP h I2 l1 l2 (by rw [g2 P 14 (fun z => absurd z.2 (by decide))]; exact hf0) hT2 ⟨by omega, by omega⟩ (by omega) hys (by rw [← hYs]; exact CFe_wd F2 (by omega) (Or.inr ⟨h11, by omega⟩) hYw) (fun i v hv => by rw [r2]; exact htt i v hv) (by rw [← hYs]; exact ⟨h11, by omega⟩) (by rw [← hYs, hk22]; omega))) ?_
  rintro v3 s4 ⟨rfl, p1, p2, p3⟩
  rw [← hf2] at p3
  have F4 : CFe P T kw w s4 := CFe_tr F2 (CFe_rz hP p1 (fun b q _ z => p2 b q z)) (Int.le_refl _) (Int.le_refl _)
  have I4 := CIn_e hP hT0 hT.1 hk0 F4 I
  have g4 : ∀ c q, ¬ (c = P ∧ q = 14) → ¬ (c = 84 ∧ q = 5) → s4.1 c q = w.1 c q := fun c q z1 z2 => by rw [p2 c q z1, g2 c q z2]
  have at4 : (s4.1 84 5).toInt = A0 := by rw [p2 84 5 (fun z => absurd z.2 (by decide))]; exact at2
  have ht4 : (s4.1 75 3).toInt = T := by rw [g4 75 3 (fun z => absurd z.2 (by decide)) (by decide)]; exact ht
  refine ⟨rfl, ?_⟩
  have h7' : -1000 ≤ a7.toInt ∧ a7.toInt ≤ 100000 := by omega
  have h9' : -1000 ≤ a9.toInt ∧ a9.toInt ≤ 100000 := by omega
  have h11' : -1000 ≤ a11.toInt ∧ a11.toInt ≤ 100000 := by omega
  by_cases z2 : f2 = 0
  · rw [if_pos z2] at eR
    have e4 : (s4.1 P 14).toInt = 0 := by rw [p3]; exact z2
    have hYf : TYs ar (TN.length : Int) (S.2.1.length : Int) (S.1.length : Int) P kw s4 a11.toInt Ys := TYs_e F4 hTs (Int.le_refl _)
    refine Zt.imp (Zt.mo (d := 12) (by omega) (zs_15 (d := 0) (k := kw) (ys := ys) (Bs := x.2.2) hP h I4 hT0 e4 ht4 ⟨hT.1, by omega⟩ hk0 (by omega) (TYc_e F4 hO (Int.le_refl _) (Int.le_refl _)) (by rw [← hYs]; exact hYf) (CFe_tt F4 h11 (by
      have e1 : ((ys.flatMap (fun y => (tlT K L (cdOf W S.1 S.2.1 TN) ar 10 y).2.map Prod.snd)).length) = Ys.flatten.length := by
        rw [hYs, ← List.flatMap_def]
        rw [List.length_flatMap, List.length_flatMap]
        congr 1
        refine List.map_congr_left (fun y _ => ?_)
        unfold wdC
        rw [List.length_map, List.length_map]
      omega) htt) (fun y hy => ⟨(hys y hy).1, (hys y hy).2.2.1, by have q1 := (hys y hy).2.2.2; have q2 := nxT_gt (m := 10) (by decide) (hys y hy).2.1; omega⟩) h9 h8 (SSz_e hP F4 hSK hk0 hSZ) (SSk_e hP F4 hSK) (by omega) hSc)) ?_
    rintro v5 s6 ⟨rfl, q1, ⟨q2, q34⟩, q3⟩
    rw [← hYs, ← hf3] at q1
    have F6 : CFe P T kw w s6 := CFe_tr F4 q2 (Int.le_refl _) (Int.le_refl _)
    have I6 := CIn_e hP hT0 hT.1 hk0 F6 I
    have g6 : ∀ c q, ¬ (c = P ∧ q = 14) → ¬ (c = 84 ∧ q = 5) → s6.1 c q = w.1 c q := fun c q z1 z2 => by rw [q3 c q z1, g4 c q z1 z2]
    refine ⟨rfl, fun x7 hx7 => ?_⟩
    have ex7 := hx7 (by omega)
    by_cases z3 : f3 = 0
    · rw [if_pos z3] at eR
      have hz6 : SZc P s6 A0 := SZc_1 (g6 _ _ (fun z => absurd z.2 (by decide)) (fun z => absurd z.2 (by decide))) hz
      refine Zt.imp (zs_11 (d := d) (m := m) (o := 40) (c := 41) (A0 := A0) (b0 := b0) (N := N) (Ys := Ys) (Zs := x.2.2.drop x.1) (co := co) (O' := O') (k := kw) (T := T) hP h hm ih I6 hT0 (by rw [q1]; exact z3) (by rw [q3 84 5 (fun z => absurd z.2 (by decide))]; exact at4) (by omega) hAO hN hn (by omega) hhi (by rw [g6 75 3 (fun z => absurd z.2 (by decide)) (by decide)]; exact ht) hT (by rw [g6 P 10 (fun z => absurd z.2 (by decide)) (fun z => absurd z.2 (by decide))]; exact hk) hk0 hk1 hk2 (TYc_e F6 hO (Int.le_refl _) (Int.le_refl _)) (TYs_e F6 hTs (Int.le_refl _)) (by omega) h2 (by omega) (by omega) (by rw [ex7, h6]; exact SSz_d (SSz_e hP F6 hSK hk0 hSZ)) (by rw [ex7, h6]; exact SSk_d (SSk_e hP F6 hSK)) (by rw [List.length_drop]; omega) (fun M hM => by rw [hYl]; exact hSc M (List.mem_of_mem_drop hM)) hz6) ?_
      rintro v8 s9 ⟨rfl, u1, u2⟩
      rw [← hfP] at u1
      refine ⟨rfl, Zt_bd (fun hB => ?_)⟩
      have hwb : -1000 ≤ (zg s9 (P + 10) a3).toInt ∧ (zg s9 (P + 10) a3).toInt ≤ 100000 := by
        have := BD_wd hP hB a3.toInt
        rw [zg_K]
        omega
      by_cases z9' : (s9.1 P 14).toInt = 0
      rotate_left
      · refine Zt.imp (Zt.mo (d := 9) (by omega) (zs_59 (d := 0) hP (by decide) hwb h7' h11' h9' h10)) ?_
        rintro v10 s11 ⟨rfl, g11⟩
        have f11 : ∀ c q, ¬ q = 2 → s11.1 c q = s9.1 c q := fun c q hq => g11.2 c q (fun z => hq z.2)
        refine ⟨rfl, fun z4 => ?_, fun z4 => absurd (by rw [← f11 P 14 (by decide)]; exact z4) z9'⟩
        rw [f11 P 14 (by decide), u1] at z4
        rw [if_neg z4] at eR
        unfold v_14_181
        refine ⟨a1, rfl, by rw [f11 P 14 (by decide), u1, eR], fun z => ?_⟩
        rw [eR] at z
        exact absurd z z4
      obtain ⟨y1', y2', y3', k', y4', y5', y6', y7', y8'⟩ := u2 z9'
      have F9 : CFe P T kw w s9 := CFe_tr F6 y1' (Int.le_refl _) (Int.le_refl _)
      have I9 := CIn_e hP hT0 hT.1 hk0 F9 I
      have ew : (zg s9 (P + 10) a3).toInt = W (a + 1) := by
        rw [zg_K, I9.1.1.1.2.2.1, h3]
      have hz9 : SZc P s9 (b0 - 2) := SZc_c hz6 y7' (by omega)
      refine Zt.imp (Zt.mo (d := 9) (by omega) (zs_59c (d := 0) (k := k') (t := b0 - 2) (I := (5, Aa, (N : Int), Ys, W (a + 1))) hP (by decide) hwb h7' h11' h9' h10 hz9 (by omega) (fun s' Ds' pc cc => by
        have Fq : CFe P T k' s9 s' := CFe_df hP Ds'
        rw [ew, show a7.toInt = (N : Int) by omega, show a9.toInt = (Ys.length : Int) by omega] at cc
        exact inz_5 cc (kpz_e Fq (kpz_e F9 ⟨h11, by omega, hYw⟩ y5') (Int.le_refl _)) (kpz_e Fq (kpz_e F9 hak y5') (Int.le_refl _))))) ?_
      rintro v10 s11 ⟨rfl, g11, cd11⟩
      have f11 : ∀ c q, ¬ q = 2 → s11.1 c q = s9.1 c q := fun c q hq => g11.2 c q (fun z => hq z.2)
      refine ⟨rfl, fun z4 => ?_, fun z4 x12 hx12 x13 hx13 => ?_⟩
      · rw [f11 P 14 (by decide), u1] at z4
        rw [if_neg z4] at eR
        unfold v_14_181
        refine ⟨a1, rfl, by rw [f11 P 14 (by decide), u1, eR], fun z => ?_⟩
        rw [eR] at z
        exact absurd z z4
      · rw [f11 P 14 (by decide), u1] at z4
        rw [if_pos z4] at eR
        have ex12 := hx12 (by omega)
        have ex13 := hx13 (by omega)
        have F11 : CFe P T kw w s11 := CFe_tr F9 (CFe_df hP g11) (Int.le_refl _) (Int.le_refl _)
        have I11 := CIn_e hP hT0 hT.1 hk0 F11 I
        have hZ := gD_at (l := x.2.2) (j := x.1 + x.2.1) (by omega)
        obtain ⟨⟨z1, z2'⟩, z3', z4', z5, z6⟩ := SSz_e hP F11 hSK hk0 hSZ _ _ hZ
        have z7 := SSk_e hP F11 hSK _ _ hZ
        obtain ⟨z8, z9⟩ := hSc _ (List.mem_of_getElem? hZ)
        have hk0' := I.1.2.2.2.2.1.2
        refine Zt.imp (Zt.mo (d := 12) (by omega) (zs_13 (d := 0) (k := k') (T := T) (Z := x.2.2.getD (x.1 + x.2.1) []) (Ys := Ys) (sl := a8.toInt + ((x.1 + x.2.1 : Nat) : Int)) (q := a + 1) hP h I11 hT0 (by rw [f11 P 14 (by decide), u1]; exact z4) (by rw [f11 75 3 (by decide)]; exact y3') ⟨hT.1, by omega⟩ (by omega) (by omega) (TYc_e F11 hO (Int.le_refl _) y5') (TYs_e F11 hTs y5') (by omega) (by rw [ex13, ex12, h6, h7]; omega) ⟨by omega, by omega⟩ z1 z7 z3' z4' z5 (by rw [hYl]; exact z8) z9 h3 ⟨by omega, ha0.2⟩)) ?_
        rintro v14 s15 ⟨r, rfl, r1, r2⟩
        refine ⟨r, rfl, ?_⟩
        unfold v_14_181
        refine ⟨r, rfl, ?_⟩
        by_cases q6 : 60 < (sbs (eta (argT ar (co :: O')) Ys) (x.2.2.getD (x.1 + x.2.1) [])).length
        · rw [if_pos q6] at r1 eR
          rw [eR]
          exact ⟨r1, fun z => by have z : 9 + 16 * L (a + 1) = 0 := z; omega⟩
        · rw [if_neg q6] at r1 eR
          rw [eR]
          obtain ⟨v1, v2, v0, T', v3, v4, v5, v6, v7⟩ := r2 r1
          have e34 : s6.2 (P + 34) = w.2 (P + 34) := by rw [q34, p1.1 _ (by omega) (by omega) (by omega) (by omega), r2']
          have c9 := CDx_l F6 (g6 _ _ (fun z => absurd z.2 (by decide)) (fun z => absurd z.2 (by decide))) e34 y7'
          have c11 := CDx_tr (T := T) c9 cd11 (CFe_df hP g11) (Int.le_refl _)
          have c15 := CDx_r v1 (Int.le_refl _) (v2 _ _ (fun z => absurd z.2 (by decide))) v0 c11
          refine ⟨r1, fun _ => ⟨CFe_tr F11 v1 (Int.le_refl _) y5', by rw [v2 84 5 (by decide), f11 84 5 (by decide)]; exact y2', ⟨by rw [v2 P 10 (fun z => absurd z.2 (by decide)), f11 P 10 (by decide), y4', ← hYs]; exact c15, by rw [List.length_append]; show ((_ + 1 : Nat) : Int) ≤ _; omega⟩, T', k', ⟨v3, v4, v5⟩, ⟨by rw [v2 P 10 (fun z => absurd z.2 (by decide)), f11 P 10 (by decide)]; exact y4', y5', y6'⟩, v6, v7⟩⟩
    · rw [if_neg z3] at eR
      have e6 : ¬ (s6.1 P 14).toInt = 0 := by rw [q1]; exact z3
      refine m_11y (d := d + 4) hP e6 h7' h9' h10 h11' (fun s11 e11 => ?_)
      refine ⟨fun _ => ?_, fun z => absurd z (by rw [e11]; exact e6)⟩
      unfold v_14_181
      refine ⟨a1, rfl, by rw [e11, q1, eR], fun z => ?_⟩
      rw [eR] at z
      exact absurd z z3
  · rw [if_neg z2] at eR
    have e4 : ¬ (s4.1 P 14).toInt = 0 := by rw [p3]; exact z2
    refine Zt.imp (Zt.mo (d := 9) (by omega) (zs_15x (d := 0) hP e4)) ?_
    rintro v5 s6 ⟨rfl, hs6⟩
    subst hs6
    refine ⟨rfl, fun x7 _ => m_11y (d := d + 4) hP e4 h7' h9' h10 h11' (fun s11 e11 => ?_)⟩
    refine ⟨fun _ => ?_, fun z => absurd z (by rw [e11]; exact e4)⟩
    unfold v_14_181
    refine ⟨a1, rfl, by rw [e11, p3, eR], fun z => ?_⟩
    rw [eR] at z
    exact absurd z z2
end ZZME
