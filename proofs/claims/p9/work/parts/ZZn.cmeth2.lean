/-! ===== the class: method, whole ===== -/
section ZZMF
variable {K L W ar kd : Int → Int} {TN Ls : List Int} {n lo hi lo' hi' B b β0 β1 k0 T T0 k a : Int} {S : Scp} {d P m : Nat} {s s' w : zS} {a1 a2 : Int32} {A : List Int} {ev : Int → Int × List Int}
theorem exC_s {O : List Int} {x : Nat × Nat × List (List Int)} (h1 : exN K L (a + 1) = x.1 ∧ NM K L (a + 1) = x.2.1) : exC K L W ar kd TN Ls S ev (a + 1) O x = if ffs ((exY K L (a + 1)).map (fun y => (tlT K L (cdOf W S.1 S.2.1 TN) ar 10 y).1)) = 0 then (if ffs ((exY K L (a + 1)).flatMap (fun y => slG K L W ar (mvD K L W ar kd TN Ls) (Bfd K L W ar TN Ls) S.2.2.1 TN S.1 S.2.1 y)) = 0 then (if ffs (((exY K L (a + 1)).zip x.2.2).map (fun p => ftk L (exK K L W ar kd TN Ls S (wdC K L W ar TN S.1 S.2.1 p.1) (eta (argT ar O) ((exY K L (a + 1)).map (wdC K L W ar TN S.1 S.2.1))) p.2) p.1)) = 0 then (if exP K L W ar kd TN Ls S ev (eta (argT ar O) ((exY K L (a + 1)).map (wdC K L W ar TN S.1 S.2.1))) ((exU K L (mO K L (a + 1)).2 (NM K L (a + 1))).zip (x.2.2.drop x.1)) = 0 then (if 60 < (sbs (eta (argT ar O) ((exY K L (a + 1)).map (wdC K L W ar TN S.1 S.2.1))) (x.2.2.getD (x.1 + x.2.1) [])).length then (9 + 16 * L (a + 1), []) else (0, sbs (eta (argT ar O) ((exY K L (a + 1)).map (wdC K L W ar TN S.1 S.2.1))) (x.2.2.getD (x.1 + x.2.1) []))) else (exP K L W ar kd TN Ls S ev (eta (argT ar O) ((exY K L (a + 1)).map (wdC K L W ar TN S.1 S.2.1))) ((exU K L (mO K L (a + 1)).2 (NM K L (a + 1))).zip (x.2.2.drop x.1)), [])) else (ffs (((exY K L (a + 1)).zip x.2.2).map (fun p => ftk L (exK K L W ar kd TN Ls S (wdC K L W ar TN S.1 S.2.1 p.1) (eta (argT ar O) ((exY K L (a + 1)).map (wdC K L W ar TN S.1 S.2.1))) p.2) p.1)), [])) else (ffs ((exY K L (a + 1)).flatMap (fun y => slG K L W ar (mvD K L W ar kd TN Ls) (Bfd K L W ar TN Ls) S.2.2.1 TN S.1 S.2.1 y)), [])) else (ffs ((exY K L (a + 1)).map (fun y => (tlT K L (cdOf W S.1 S.2.1 TN) ar 10 y).1)), []) := by
  unfold exC
  rw [if_pos h1]
  unfold exB exE
  rw [ffs_app, ffs_app]
  by_cases c1 : ffs ((exY K L (a + 1)).map (fun y => (tlT K L (cdOf W S.1 S.2.1 TN) ar 10 y).1)) = 0
  · rw [if_pos c1, if_pos c1]
    by_cases c2 : ffs ((exY K L (a + 1)).flatMap (fun y => slG K L W ar (mvD K L W ar kd TN Ls) (Bfd K L W ar TN Ls) S.2.2.1 TN S.1 S.2.1 y)) = 0
    · rw [if_pos c2, if_pos c2]
    · rw [if_neg c2, if_neg c2, if_neg c2]
  · rw [if_neg c1, if_neg c1, if_neg c1, if_neg c1]
set_option maxHeartbeats 8000000 in
theorem zs_14 (hP : P = 3 ∨ P = 39) (hW : EWd K L W ar kd TN Ls n lo' hi' B b β0 β1 S) (hm : m ≤ 10) (ih : C7 K L W ar kd TN Ls n k0 S P lo hi T0 m (d + 11)) (hd : 11 ≤ d) (I : CIn K L W ar kd TN Ls n k0 S P lo hi T0 s) (l1 : S.1.length ≤ 6) (l2 : S.2.1.length ≤ 6) (hT0 : 18 ≤ T0) (hf0 : (s.1 P 14).toInt = 0) (hat : (s.1 84 5).toInt = a + 1) (ha0 : 0 ≤ a) (hPO : POk K L m a) (h40 : ¬ K (a + 1) = 40) (hb9 : K (a + 2) = 91 ∨ K (a + 2) = 40) (hn : aPt K L a ≤ n) (hlo : lo ≤ a) (hhi : aPt K L a ≤ hi) (ht : (s.1 75 3).toInt = T) (hT : T0 ≤ T ∧ T ≤ 5000 - 100 * (m : Int)) (hk : (s.1 P 10).toInt = k) (hk0 : k0 ≤ k) (hk1 : 18738 ≤ k) (hk2 : k + 15 * (aPt K L a - a) ≤ 82800) (hA : TYc ar (TN.length : Int) (S.2.1.length : Int) (S.1.length : Int) P T k s a1.toInt A) (h2 : a2.toInt = 10 - (m : Int)) (hz : SZc P s a) : Zt (d + 14) (wd P 14) 14 [.ref 84, .int a1, .int a2] s (fun v s' => ∃ r : Int32, v = some (.int r) ∧ CPz ar (TN.length : Int) S P T k a (aPt K L a) (exM K L W ar kd TN Ls S (exE6 K L W ar kd TN Ls S m) a A) (ciP (ciE K L W ar kd TN Ls S m) (exU K L (mO K L (a + 1)).2 (NM K L (a + 1))) ++ [(5, A, (NM K L (a + 1) : Int), (exY K L (a + 1)).map (fun y => wdC K L W ar TN S.1 S.2.1 y), W (a + 1))]) s s' r ∧ ((exM K L W ar kd TN Ls S (exE6 K L W ar kd TN Ls S m) a A).1 = 0 → T ≤ r.toInt)) := by
  have h := hW.1
  obtain ⟨ha, h24⟩ := PR_ar h
  have hnn := h.1.1.1
  have hnT := PR_nT h
  have hc24 := h.2.2.1
  obtain ⟨hK46, -, po3⟩ := id hPO
  obtain ⟨hK1, hT91, hOk, -⟩ := po3 h40
  have hOk := hOk hb9
  obtain ⟨po1, -, poT, poM⟩ := POk_o hm hPO
  obtain ⟨poM1, poM2⟩ := poM h40 hb9
  have hm1 : (mO K L (a + 1)).1 = 0 := by
    rcases hb9 with q | q
    · rw [(hT91 q).2.2]
    · unfold mO
      rw [show a + 1 + 1 = a + 2 by omega, if_neg (by omega)]
  have hLa1 := h.1.1.2.2 (a + 1) (by omega) (by omega)
  obtain ⟨A0, hA0⟩ : ∃ A0, A0 = (mO K L (a + 1)).2 := ⟨_, rfl⟩
  obtain ⟨Nt, hNt⟩ : ∃ Nt, Nt = exN K L (a + 1) := ⟨_, rfl⟩
  obtain ⟨N, hN⟩ : ∃ N, N = NM K L (a + 1) := ⟨_, rfl⟩
  obtain ⟨ys, hys⟩ : ∃ ys, ys = exY K L (a + 1) := ⟨_, rfl⟩
  rw [← hA0] at hOk poM1 poM2
  have hNp : p_vn K L (p_e K L 11) 40 41 (0, A0) = N := by
    rw [hN, hA0]
    unfold NM
    congr 1
    exact Prod.ext hm1.symm rfl
  have hN7 : N ≤ 7 := by rw [← hNp]; exact hOk.2.1
  have e91 : K (a + 2) = 91 → Nt = NT K L (a + 2) := fun q => by
    rw [hNt]
    unfold exN
    rw [show a + 1 + 1 = a + 2 by omega, if_pos q]
  have n91 : ¬ K (a + 2) = 91 → Nt = 0 := fun q => by
    rw [hNt]
    unfold exN
    rw [show a + 1 + 1 = a + 2 by omega, if_neg q]
  have hTk : ∀ j, j < Nt → (p_t K L 10 false (0, uS (nxT K L) (a + 3) j)).1 = 0 ∧ a + 3 ≤ uS (nxT K L) (a + 3) j ∧ uS (nxT K L) (a + 3) j < nxT K L (uS (nxT K L) (a + 3) j) ∧ nxT K L (uS (nxT K L) (a + 3) j) < A0 := fun j hj => by
    have h91 : K (a + 2) = 91 := Decidable.byContradiction (fun q => by have := n91 q; omega)
    rw [e91 h91] at hj
    obtain ⟨q1, q2, q3, -⟩ := poT h40 h91 j hj
    rw [← hA0] at q3
    exact ⟨pt_10 hm ((hT91 h91).2.1 j hj), q1, q2, q3⟩
  have hUN : (Nt = 0 ∧ A0 = a + 2) ∨ (0 < Nt ∧ A0 = uS (nxT K L) (a + 3) Nt) := by
    by_cases q : K (a + 2) = 91
    · obtain ⟨⟨q1, -⟩, -, q3⟩ := hT91 q
      refine Or.inr ⟨by rw [e91 q]; omega, ?_⟩
      rw [hA0, q3, e91 q]
    · refine Or.inl ⟨n91 q, ?_⟩
      rw [hA0]
      unfold mO
      rw [show a + 1 + 1 = a + 2 by omega, if_neg q]
  have hyl : ys.length = Nt := by rw [hys, hNt, exY_len]
  have hya : ∀ j, j < Nt → ys[j]? = some (uS (nxT K L) (a + 3) j) := fun j hj => by
    rw [hys]
    rw [hNt] at hj
    exact exY_at hj
  obtain ⟨ev, hev⟩ : ∃ ev, ev = exE6 K L W ar kd TN Ls S m := ⟨_, rfl⟩
  rw [← hev]
  obtain ⟨R, hR⟩ : ∃ R, R = exM K L W ar kd TN Ls S ev a A := ⟨_, rfl⟩
  rw [← hR]
  obtain ⟨Cd, hCd⟩ : ∃ Cd, Cd = ciP (ciE K L W ar kd TN Ls S m) (exU K L (mO K L (a + 1)).2 (NM K L (a + 1))) ++ [((5 : Int), A, (NM K L (a + 1) : Int), (exY K L (a + 1)).map (fun y => wdC K L W ar TN S.1 S.2.1 y), W (a + 1))] := ⟨_, rfl⟩
  rw [← hCd]
  rw [show d + 14 = d + 5 + 9 by omega]
  refine zc_14 hP ?_
  unfold v_14_0
  intro x1 hx1 s2 hs2
  have ex1 := hx1 (by omega)
  have F2 : CFe P T k s s2 := by rw [hs2]; exact CFe_f (Or.inr (Or.inr ⟨rfl, rfl⟩))
  have g2 : ∀ c q, ¬ (c = 84 ∧ q = 5) → s2.1 c q = s.1 c q := fun c q hq => by rw [hs2, zf_1, if_neg hq]
  have at2 : (s2.1 84 5).toInt = a + 2 := by rw [hs2, zf_1, if_pos ⟨rfl, rfl⟩, ex1, hat]; omega
  have hf2 : (s2.1 P 14).toInt = 0 := by rw [g2 P 14 (fun z => absurd z.2 (by decide))]; exact hf0
  have hT2 : (s2.1 75 3).toInt = T := by rw [g2 75 3 (fun z => absurd z.1 (by decide))]; exact ht
  have hk22 : (s2.1 P 10).toInt = k := by rw [g2 P 10 (fun z => absurd z.2 (by decide))]; exact hk
  have I2 := CIn_e hP hT0 hT.1 hk0 F2 I
  have hA2 := TYc_e F2 hA (Int.le_refl _) (Int.le_refl _)
  have r7x : s2.2 (P + 34) = s.2 (P + 34) := by rw [hs2, zf_2]
  clear hs2
  refine Zt.imp (Zt.mo (d := 9) (by omega) (t_90 (d := 0) hP hW I2 hk0 hA2)) ?_
  rintro v3 s4 ⟨hs4, x5, rfl, hx5⟩
  subst hs4
  obtain ⟨co, O', eO⟩ := TYc_ne hx5
  rw [eO] at hx5
  have ec : (zg s4 (P + 18) x5).toInt = co := by
    rw [zg_K]
    exact TYc_hd hx5
  have hco := hx5.2.2.2.2 co List.mem_cons_self
  have eRM : R = if soD K L W kd TN Ls co (W (a + 1)) < 0 then (2 + 16 * L (a + 1), []) else exC K L W ar kd TN Ls S ev (a + 1) (co :: O') (hdd K L W ar TN Ls (soD K L W kd TN Ls co (W (a + 1))).toNat) := by
    rw [hR]
    unfold exM
    rw [eO]
    rfl
  have ew : (zg s4 (P + 10) (s.1 84 5)).toInt = W (a + 1) := by rw [zg_K, hat, I2.1.1.1.2.2.1]
  have eL : KI (s4.2 (P + 6)) = L := I2.1.1.1.2.1
  obtain ⟨m1, m2, m3, m4, m5, m6, m7, m8⟩ := cz_lk h I2.1
  have hH4 := I2.1.2.2.2.2.2.2.2.2
  refine ⟨x5, rfl, ?_⟩
  refine Zt.imp (Zt.mo (d := 10) (by omega) (zs_52 (d := 0) hP m3 m4 m5 hc24.2 (by rw [ec]; omega) (by rw [ec]; intro z; have := m8 co z; omega))) ?_
  rintro v6 s7 ⟨hs7, x8, rfl, hx8⟩
  subst hs7
  rw [ec, ew, cz_so h I2.1] at hx8
  have hx8 : x8.toInt = soD K L W kd TN Ls co (W (a + 1)) := hx8
  -- a blame at the METHOD
  have blm : ∀ (y : Int32), (y.toInt = 2 ∨ y.toInt = 4) → R = (y.toInt + 16 * L (a + 1), []) → Zt (d + 5 + 8) (wd P 38) 38 [.ref P, .int y, .int (s.1 84 5)] s7 (fun v12 s13 => v12 = none ∧ ∃ r : Int32, some (Value.int a1) = some (.int r) ∧ CPz ar (TN.length : Int) S P T k a (aPt K L a) R Cd s s13 r ∧ (R.1 = 0 → T ≤ r.toInt)) := by
    intro y hy eR
    refine Zt.imp (Zt.mo (d := 9) (by omega) (zs_38b (d := 0) hP (by rw [eL, hat]; omega) (by omega))) ?_
    rintro v12 s13 ⟨rfl, hc⟩
    refine ⟨rfl, a1, rfl, ?_⟩
    rw [eR]
    rcases hc with ⟨-, -, x, hx, rfl⟩ | ⟨hc, -⟩
    · rw [eL, hat] at hx
      exact ⟨CPz_f (by rw [zf_1, if_pos ⟨rfl, rfl⟩, hx]) (by omega), fun z => by have z : y.toInt + 16 * L (a + 1) = 0 := z; omega⟩
    · exact absurd ⟨hf2, by omega⟩ hc
  refine ⟨x8, rfl, fun z => ?_, fun z => ?_⟩
  · obtain ⟨g, hg1, hg2, hg3⟩ : ∃ g : Nat, soD K L W kd TN Ls co (W (a + 1)) = (g : Int) ∧ g < kHd K L Ls ∧ owd K L W TN Ls g = co := by
      rcases so_pu (co := co) (y := W (a + 1)) h with q | q
      · omega
      · exact q
    rw [hg1] at hx8
    rw [hg1, if_neg (by omega), Int.toNat_natCast] at eRM
    obtain ⟨x, hx⟩ : ∃ x, x = hdd K L W ar TN Ls g := ⟨_, rfl⟩
    rw [← hx] at eRM
    obtain ⟨⟨p1, p2, p3⟩, ⟨p4, p4'⟩, p5, p6⟩ := m6 g hg2
    have p7 := cz_hk h I2.1 hg2
    obtain ⟨-, u2, -⟩ := hd_pu h hg2
    rw [← hx] at p1 p2 p4 p4' p5 p6 p7 u2
    obtain ⟨F6, hF6⟩ : ∃ y, y = zg s7 (P + 28) (x8 * 5 + 3) := ⟨_, rfl⟩
    obtain ⟨V7, hV7⟩ : ∃ y, y = zg s7 (P + 28) (x8 * 5 + 4) := ⟨_, rfl⟩
    obtain ⟨S8, hS8⟩ : ∃ y, y = zg s7 (P + 28) (x8 * 5 + 2) := ⟨_, rfl⟩
    rw [← hF6, ← hV7, ← hS8]
    have eF6 : F6.toInt = (x.1 : Int) := by rw [hF6, zg_sg (s := s7) (P := P) (a1 := x8) (c := 3) (k := 3) (by decide) (by decide) (by omega), hx8]; exact p1
    have eV7 : V7.toInt = (x.2.1 : Int) := by rw [hV7, zg_sg (s := s7) (P := P) (a1 := x8) (c := 4) (k := 4) (by decide) (by decide) (by omega), hx8]; exact p2
    have eS8 : S8.toInt = sgc s7 P (g : Int) 2 := by rw [hS8, zg_sg (s := s7) (P := P) (a1 := x8) (c := 2) (k := 2) (by decide) (by decide) (by omega), hx8]
    have lst : (zg s7 (P + 12) (s.1 84 5)).toInt = (N : Int) := by
      rw [zg_K, hat, hN]
      exact (I2.2.2.1 (a + 1) (by omega) (by omega)).2.2 hK1 (by omega) (by rw [show a + 1 - 1 = a by omega]; exact hK46) (by rw [show a + 1 + 1 = a + 2 by omega]; exact hb9.symm)
    have hco24 : ar co = ((argT ar (co :: O')).length : Int) := (argT_P ha hx5.2.2.1 hx5.2.2.2.2 hx5.2.2.2.1.2).2.symm
    have main : ∀ t0 : Int32, t0.toInt = (Nt : Int) → v_14_70 (fun j => Zt (d + 5 + 8) (wd P j) j) P a1 a2 (s.1 84 5) x5 x8 F6 V7 S8 t0 s7 (fun v s' => ∃ r : Int32, v = some (.int r) ∧ CPz ar (TN.length : Int) S P T k a (aPt K L a) R Cd s s' r ∧ (R.1 = 0 → T ≤ r.toInt)) := by
      intro t0 ht0
      have unev : ¬ (Nt = x.1 ∧ N = x.2.1) → v_14_81 (fun j => Zt (d + 5 + 8) (wd P j) j) P a1 a2 (s.1 84 5) x5 x8 F6 V7 S8 t0 s7 (fun v s' => ∃ r : Int32, v = some (.int r) ∧ CPz ar (TN.length : Int) S P T k a (aPt K L a) R Cd s s' r ∧ (R.1 = 0 → T ≤ r.toInt)) := fun hne => by
        unfold v_14_81
        refine blm 4 (Or.inr (by decide)) ?_
        rw [eRM]
        unfold exC
        rw [if_neg (by rw [← hNt, ← hN]; exact hne)]
        rfl
      unfold v_14_70
      refine ⟨fun z1 => unev (fun q => z1 (by omega)), fun z1 => ⟨fun z2 => ?_, fun z2 => unev (fun q => z2 (by omega))⟩⟩
      rw [lst] at z2
      have hx1' : Nt = x.1 := by omega
      have hx2' : N = x.2.1 := by omega
      have eRC := eRM
      rw [exC_s (by rw [← hNt, ← hN]; exact ⟨hx1', hx2'⟩), ← hys, ← hA0, ← hN] at eRC
      obtain ⟨Ys, hYs⟩ : ∃ Ys, Ys = ys.map (wdC K L W ar TN S.1 S.2.1) := ⟨_, rfl⟩
      obtain ⟨Lt, hLt⟩ : ∃ Lt, Lt = ys.map (fun y => (tlT K L (cdOf W S.1 S.2.1 TN) ar 10 y).1) := ⟨_, rfl⟩
      rw [← hLt] at eRC
      have hLl : Lt.length = Nt := by rw [hLt, List.length_map, hyl]
      have hYl : Ys.length = Nt := by rw [hYs, List.length_map, hyl]
      refine Zt.imp (Zt.mo (d := 10) (by omega) (zs_92 (d := 0) (A := A) (kp := k) hP m1 ha hA2.2.2.1 hA2.2.2.2.1.1 ⟨hA2.1.1, by have := hA2.1.2; omega⟩ hk22 ⟨hk1, by omega⟩ hA2.2.1 (by have := hA2.1.2; omega))) ?_
      rintro v1 sK ⟨q1, q2, q3, ⟨q4, q5⟩, x3, rfl, ⟨q6, q6'⟩, q7, q8⟩
      refine ⟨x3, rfl, ?_⟩
      obtain ⟨k1, hk1'⟩ : ∃ k1, (sK.1 P 10).toInt = k1 := ⟨_, rfl⟩
      rw [hk1'] at q4 q5 q8
      have e34K : sK.2 (P + 34) = s.2 (P + 34) := by rw [q1 _ (by omega), r7x]
      have e2K : sK.1 (P + 34) 2 = s.1 (P + 34) 2 := by rw [q3 _ _ (fun z => absurd z.2 (by decide)), g2 _ _ (fun z => absurd z.2 (by decide))]
      have FK : CFe P T k s7 sK := CFe_ke hP (by omega) hk1 q1 q2 q3
      have FKs : CFe P T k s sK := CFe_tr F2 FK (Int.le_refl _) (Int.le_refl _)
      have IK := CIn_e hP hT0 hT.1 hk0 FKs I
      obtain ⟨ty, hty⟩ : ∃ ty, ty = sK.1 P 10 := ⟨_, rfl⟩
      rw [← hty]
      rw [← hty] at hk1'
      have u0 : uS (nxT K L) (a + 3) 0 = a + 3 := rfl
      refine ⟨fun b1 b2 b3 b4 b5 b6 b7 b8 b9 b10 b11 b12 w => b1 = a1 ∧ b2 = a2 ∧ b3 = s.1 84 5 ∧ b4 = x5 ∧ b5 = x8 ∧ b6 = F6 ∧ b7 = V7 ∧ b8 = S8 ∧ b9 = t0 ∧ b10 = x3 ∧ b11 = ty ∧ ∃ j : Nat, j ≤ Nt ∧ b12.toInt = (j : Int) ∧ (w.1 P 14).toInt = ffs (Lt.take j) ∧ ((w.1 P 14).toInt = 0 → CFe P T k1 sK w ∧ (w.1 84 5).toInt = uS (nxT K L) (a + 3) j - 1 ∧ (w.1 75 3).toInt = T ∧ (w.1 P 10).toInt = k1 + ((Ys.take j).flatten.length : Int) ∧ WDz P w k1 (Ys.take j).flatten ∧ TTz P w k1 ((ys.take j).flatMap (fun y => (tlT K L (cdOf W S.1 S.2.1 TN) ar 10 y).2.map Prod.snd)) ∧ ((Ys.take j).flatten.length : Int) ≤ uS (nxT K L) (a + 3) j - (a + 3) ∧ w.2 (P + 34) = s.2 (P + 34) ∧ w.1 (P + 34) 2 = s.1 (P + 34) 2), fun _ _ _ _ _ _ _ _ _ _ _ b12 _ => (100 - b12.toInt).toNat, ⟨rfl, rfl, rfl, rfl, rfl, rfl, rfl, rfl, rfl, rfl, rfl, 0, Nat.zero_le _, by decide, ?_, fun _ => ⟨CFe_rf, ?_, ?_, ?_, ?_, ?_, ?_, e34K, e2K⟩⟩, ?_⟩
      · rw [List.take_zero, q3 P 14 (fun z => absurd z.2 (by decide))]
        exact hf2
      · rw [u0, q3 84 5 (fun z => absurd z.2 (by decide)), at2]
        omega
      · rw [q3 75 3 (fun z => absurd z.2 (by decide))]
        exact hT2
      · rw [List.take_zero, ← hty, hk1']
        show k1 = k1 + ((0 : Nat) : Int)
        omega
      · rw [List.take_zero]
        exact fun i c hc => by cases hc
      · rw [List.take_zero]
        exact fun i c hc => by cases hc
      · rw [List.take_zero, u0]
        show ((0 : Nat) : Int) ≤ a + 3 - (a + 3)
        omega
      rintro b1 b2 b3 b4 b5 b6 b7 b8 b9 b10 b11 b12 w ⟨e1, e2, e3, e4, e5, e6, e7, e8, e9, e10, e11, j, j1, j2, j3, j4⟩
      subst e1 e2 e3 e4 e5 e6 e7 e8 e9 e10 e11
      have hv7 : -1000 ≤ b7.toInt ∧ b7.toInt ≤ 100000 := by omega
      have hv9 : -1000 ≤ b9.toInt ∧ b9.toInt ≤ 100000 := by omega
      have hv10 : -1000 ≤ b10.toInt ∧ b10.toInt ≤ 100000 := by omega
      have hv11 : -1000 ≤ b11.toInt ∧ b11.toInt ≤ 100000 := by omega
      have fin : (j = Nt ∨ ¬ (w.1 P 14).toInt = 0) → v_14_118 (fun j => Zt (d + 5 + 8) (wd P j) j) P b1 b2 (s.1 84 5) b4 b5 b6 b7 b8 b9 b10 b11 b12 w (fun v s' => ∃ r : Int32, v = some (.int r) ∧ CPz ar (TN.length : Int) S P T k a (aPt K L a) R Cd s s' r ∧ (R.1 = 0 → T ≤ r.toInt)) := by
        intro hc
        by_cases w2 : (w.1 P 14).toInt = 0
        · have hjN : j = Nt := by
            rcases hc with q | q
            · exact q
            · exact absurd w2 q
          rw [hjN] at j3 j4
          rw [← hLl, List.take_length] at j3
          rw [if_pos (by rw [← j3]; exact w2)] at eRC
          obtain ⟨f1, f2, f3, f4, f5, f6, f7, f8, f9⟩ := j4 w2
          rw [← hYl, List.take_length] at f4 f5 f7
          rw [hYl] at f7
          rw [← hyl, List.take_length] at f6
          have Fw : CFe P T k s w := CFe_tr FKs f1 (Int.le_refl _) q4
          have Iw := CIn_e hP hT0 hT.1 hk0 Fw I
          have F7w : CFe P T k s7 w := CFe_tr FK f1 (Int.le_refl _) q4
          have all0 : ∀ y ∈ ys, (tlT K L (cdOf W S.1 S.2.1 TN) ar 10 y).1 = 0 := fun y hy => by
            have := ffs_0.mp (show ffs Lt = 0 by rw [← j3]; exact w2)
            refine this _ ?_
            rw [hLt]
            exact List.mem_map.mpr ⟨y, hy, rfl⟩
          have hyA : ∀ y ∈ ys, (tlT K L (cdOf W S.1 S.2.1 TN) ar 10 y).1 = 0 ∧ (p_t K L 10 false (0, y)).1 = 0 ∧ 0 ≤ y ∧ nxT K L y ≤ n := fun y hy => by
            obtain ⟨i, hi⟩ := List.getElem?_of_mem hy
            have hi' := (List.getElem?_eq_some_iff.mp hi).1
            rw [hyl] at hi'
            have e := hya i hi'
            rw [hi] at e
            have e' := Option.some.inj e
            obtain ⟨r1, r2, r3, r4⟩ := hTk i hi'
            refine ⟨all0 y hy, ?_, ?_, ?_⟩
            · rw [e']
              exact r1
            · omega
            · rw [e']
              omega
          have last : ∀ t2 : Int32, (w.1 84 5).toInt + t2.toInt = A0 → v_14_126 (fun j => Zt (d + 5 + 8) (wd P j) j) P b1 b2 (s.1 84 5) b4 b5 b6 b7 b8 b9 b10 b11 b12 (w.1 84 5) t2 w (fun v s' => ∃ r : Int32, v = some (.int r) ∧ CPz ar (TN.length : Int) S P T k a (aPt K L a) R Cd s s' r ∧ (R.1 = 0 → T ≤ r.toInt)) := by
            intro t2 hat2
            have hkw : k1 + (Ys.flatten.length : Int) + 15 * (aPt K L a - A0 - 2) ≤ k + 15 * (aPt K L a - a) := by
              rcases hUN with ⟨n1, n2⟩ | ⟨n1, n2⟩
              · rw [n1, u0] at f7
                omega
              · rw [← n2] at f7
                omega
            have key := m_126 (d := d) (P := P) (m := m) (N := N) (w := w) (a1 := b1) (a2 := b2) (a3 := s.1 84 5) (a4 := b4) (a5 := b5) (a6 := b6) (a7 := b7) (a8 := b8) (a9 := b9) (a10 := b10) (a11 := b11) (a12 := b12) (t1 := w.1 84 5) (t2 := t2) (x := x) (ys := ys) (R := R) (A0 := A0) (b0 := aPt K L a) (kw := k1 + (Ys.flatten.length : Int)) (T := T) (co := co) (O' := O') hP hW hm ih Iw l1 l2 hT0 w2 ⟨ha0, by omega⟩ hat2 poM1 hOk hNp hn hlo hhi f3 hT f4 (by omega) (by omega) (by omega) hat (TYc_e F7w hx5 (Int.le_refl _) (by omega)) (by omega) hx2'.symm p5 eF6 eV7 (by omega) (by rw [eS8]; exact SSz_e hP F7w p7 hk0 p6) (by rw [eS8]; exact SSk_e hP F7w p7) (fun M hM => by obtain ⟨v1, -, -, v4⟩ := u2 M hM; rw [hg3, hco24, ← hx1', ← hyl] at v1; exact ⟨v1, v4⟩) (by omega) (by omega) hN7 hv10 (by omega) (by rw [← hYs]; omega) (by rw [← hYs, hk1']; exact f5) (by rw [hk1']; exact f6) hyA h2 (SZc_m (SZc_1 f9 hz) (by omega)) (Aa := A) (kpz_e f1 ⟨q6, q8, q7⟩ (by omega)) (by rw [← hev]; exact eRC)
            unfold v_14_126 at key ⊢
            intro y1 hy1 s2' hs2'
            refine Zt.imp (key y1 hy1 s2' hs2') ?_
            rintro v3 s4' ⟨r1, r2⟩
            refine ⟨r1, Zt.imp r2 ?_⟩
            rintro v5 s6 ⟨r3, r4⟩
            refine ⟨r3, fun x7 hx7 => Zt.imp (r4 x7 hx7) ?_⟩
            rintro v8 s9 ⟨r5, r6⟩
            refine ⟨r5, Zt.imp r6 ?_⟩
            have imp : ∀ (r : Int32) (s' : zS), ((s'.1 P 14).toInt = R.1 ∧ (R.1 = 0 → CFe P T (k1 + (Ys.flatten.length : Int)) w s' ∧ (s'.1 84 5).toInt = aPt K L a ∧ (CDx P (s'.1 P 10).toInt w s' (ciP (ciE K L W ar kd TN Ls S m) (exU K L A0 N) ++ [(5, A, (N : Int), ys.map (wdC K L W ar TN S.1 S.2.1), W (a + 1))]) ∧ ((ciP (ciE K L W ar kd TN Ls S m) (exU K L A0 N) ++ [((5 : Int), A, (N : Int), ys.map (wdC K L W ar TN S.1 S.2.1), W (a + 1))]).length : Int) ≤ aPt K L a - A0 - 1) ∧ ∃ T' k', ((s'.1 75 3).toInt = T' ∧ T ≤ T' ∧ T' ≤ T + 60) ∧ ((s'.1 P 10).toInt = k' ∧ k1 + (Ys.flatten.length : Int) ≤ k' ∧ k' ≤ k1 + (Ys.flatten.length : Int) + 15 * (aPt K L a - A0 - 2)) ∧ TYc ar (TN.length : Int) (S.2.1.length : Int) (S.1.length : Int) P T' k' s' r.toInt R.2 ∧ T ≤ r.toInt)) → CPz ar (TN.length : Int) S P T k a (aPt K L a) R Cd s s' r ∧ (R.1 = 0 → T ≤ r.toInt) := by
              rintro r s' ⟨c1, c2⟩
              refine ⟨⟨c1, fun c0 => ?_⟩, fun c0 => ?_⟩
              · obtain ⟨d1, d2, ⟨dc, dl⟩, T', k', d3, ⟨d4, d5, d6⟩, d7, -⟩ := c2 c0
                have eC : Cd = ciP (ciE K L W ar kd TN Ls S m) (exU K L A0 N) ++ [(5, A, (N : Int), ys.map (wdC K L W ar TN S.1 S.2.1), W (a + 1))] := by rw [hCd, hA0, hN, hys]
                exact ⟨CFe_tr Fw d1 (Int.le_refl _) (by omega), d2, ⟨by rw [eC]; exact CDx_l Fw f9 f8 dc, by rw [eC]; omega⟩, T', k', d3, ⟨d4, by omega, by omega⟩, d7⟩
              · obtain ⟨-, -, -, T', k', -, -, -, d8⟩ := c2 c0
                exact d8
            rintro v10 s11 ⟨r7, r8, r9⟩
            refine ⟨r7, fun z4 => ?_, fun z4 x12 hx12 x13 hx13 => ?_⟩
            · have := r8 z4
              unfold v_14_181 at this ⊢
              obtain ⟨r, c1, c2⟩ := this
              exact ⟨r, c1, imp r s11 c2⟩
            · refine Zt.imp (r9 z4 x12 hx12 x13 hx13) ?_
              rintro v14 s15 ⟨x16, c0, c1⟩
              refine ⟨x16, c0, ?_⟩
              unfold v_14_181 at c1 ⊢
              obtain ⟨r, c1, c2⟩ := c1
              exact ⟨r, c1, imp r s15 c2⟩
          unfold v_14_118
          refine ⟨fun z9 => last 0 ?_, fun z9 => last 1 ?_⟩
          · rcases hUN with ⟨n1, n2⟩ | ⟨n1, -⟩
            · rw [f2, n1, u0, n2, show (0 : Int32).toInt = 0 by decide]
              omega
            · omega
          · rcases hUN with ⟨n1, -⟩ | ⟨-, n2⟩
            · omega
            · rw [f2, n2, show (1 : Int32).toInt = 1 by decide]
              omega
        · have eF : R.1 = (w.1 P 14).toInt := by
            rw [j3] at w2 ⊢
            rw [ffs_take w2, if_neg w2] at eRC
            rw [eRC]
          have b126 : ∀ t2 : Int32, v_14_126 (fun j => Zt (d + 5 + 8) (wd P j) j) P b1 b2 (s.1 84 5) b4 b5 b6 b7 b8 b9 b10 b11 b12 (w.1 84 5) t2 w (fun v s' => ∃ r : Int32, v = some (.int r) ∧ CPz ar (TN.length : Int) S P T k a (aPt K L a) R Cd s s' r ∧ (R.1 = 0 → T ≤ r.toInt)) := fun t2 => m_126x (d := d + 4) hP w2 hv7 hv9 hv10 hv11 (fun s' hs' => ⟨b1, rfl, ⟨by rw [hs', eF], fun z => absurd z (by rw [eF]; exact w2)⟩, fun z => absurd z (by rw [eF]; exact w2)⟩)
          unfold v_14_118
          exact ⟨fun _ => b126 0, fun _ => b126 1⟩
      unfold v_14_99
      refine ⟨fun w1 => fin (Or.inl (by omega)), fun w1 => ⟨fun w2 => fin (Or.inr w2), fun w2 y1 hy1 => ?_⟩⟩
      have hj : j < Nt := by omega
      obtain ⟨f1, f2, f3, f4, f5, f6, f7, f8, f9⟩ := j4 w2
      obtain ⟨r1, r2, r3, r4⟩ := hTk j hj
      have ey1 := hy1 (by omega)
      obtain ⟨y, hy⟩ : ∃ y, y = uS (nxT K L) (a + 3) j := ⟨_, rfl⟩
      rw [← hy] at r1 r2 r3 r4 f2 f7
      have hyj := hya j hj
      rw [← hy] at hyj
      have Fw : CFe P T k s w := CFe_tr FKs f1 (Int.le_refl _) q4
      have Iw := CIn_e hP hT0 hT.1 hk0 Fw I
      refine Zt.imp (Zt.mo (d := 22) (by omega) (t_132 (d := 0) (a1 := y1) (a2 := 1) (t := y) (k := k1 + ((Ys.take j).flatten.length : Int)) hP h Iw w2 (by omega) (by decide) (by omega) r1 (by omega) (by omega) (by omega) f4 (by omega) (by omega))) ?_
      rintro v2 s3 ⟨x4, rfl, t1, t2, t3⟩
      refine ⟨x4, rfl, fun s5 hs5 x6 hx6 => ?_⟩
      have ex6 := hx6 (by omega)
      have hLk : Lt[j]? = some (tlT K L (cdOf W S.1 S.2.1 TN) ar 10 y).1 := by
        rw [hLt, List.getElem?_map, hyj]
        rfl
      have eFs := ffs_tk hLk
      rw [← j3, if_pos w2] at eFs
      have e14 : s5.1 P 14 = s3.1 P 14 := by rw [hs5, zf_1, if_neg (fun z => absurd z.2 (by decide))]
      refine ⟨⟨rfl, rfl, rfl, rfl, rfl, rfl, rfl, rfl, rfl, rfl, rfl, j + 1, by omega, by omega, by rw [e14, eFs]; exact t2, fun z0 => ?_⟩, by dsimp only; omega⟩
      rw [e14, t2] at z0
      obtain ⟨o1, o2, o3, o4, o5⟩ := t3 z0
      have hYj : Ys[j]? = some (wdC K L W ar TN S.1 S.2.1 y) := by
        rw [hYs, List.getElem?_map, hyj]
        rfl
      have ft := fl_take hYj
      have eYt : (Ys.take (j + 1)).flatten = (Ys.take j).flatten ++ wdC K L W ar TN S.1 S.2.1 y := by
        rw [List.take_succ, hYj, List.flatten_append]
        show _ ++ [wdC K L W ar TN S.1 S.2.1 y].flatten = _
        rw [List.flatten_cons, List.flatten_nil, List.append_nil]
      have eyt : (ys.take (j + 1)).flatMap (fun y => (tlT K L (cdOf W S.1 S.2.1 TN) ar 10 y).2.map Prod.snd) = (ys.take j).flatMap (fun y => (tlT K L (cdOf W S.1 S.2.1 TN) ar 10 y).2.map Prod.snd) ++ (tlT K L (cdOf W S.1 S.2.1 TN) ar 10 y).2.map Prod.snd := by
        rw [List.take_succ, hyj, List.flatMap_append]
        show _ ++ ((tlT K L (cdOf W S.1 S.2.1 TN) ar 10 y).2.map Prod.snd ++ []) = _
        rw [List.append_nil]
      have hwl : (wdC K L W ar TN S.1 S.2.1 y).length = (tlT K L (cdOf W S.1 S.2.1 TN) ar 10 y).2.length := by
        unfold wdC
        rw [List.length_map]
      have eyl : ((ys.take j).flatMap (fun y => (tlT K L (cdOf W S.1 S.2.1 TN) ar 10 y).2.map Prod.snd)).length = (Ys.take j).flatten.length := by
        rw [hYs, ← List.map_take, ← List.flatMap_def, List.length_flatMap, List.length_flatMap]
        congr 1
        refine List.map_congr_left (fun y _ => ?_)
        unfold wdC
        rw [List.length_map, List.length_map]
      have uj1 : uS (nxT K L) (a + 3) (j + 1) = nxT K L y + 1 := by rw [hy]; rfl
      have F3 : CFe P T (k1 + ((Ys.take j).flatten.length : Int)) w s3 := CFe_tl t1 (by omega) (by omega)
      have r5 : s5.2 = s3.2 := by rw [hs5]; rfl
      refine ⟨?_, ?_, ?_, ?_, ?_, ?_, ?_, by rw [r5, t1.2.1 _ (by omega) (by omega), f8], by rw [hs5, zf_1, if_neg (fun z => absurd z.2 (by decide)), t1.1 _ _ (fun z => by omega), f9]⟩
      · rw [hs5]
        exact CFe_tr (CFe_tr f1 F3 (Int.le_refl _) (by omega)) (CFe_f (Or.inr (Or.inr ⟨rfl, rfl⟩))) (Int.le_refl _) (Int.le_refl _)
      · rw [hs5, zf_1, if_pos ⟨rfl, rfl⟩, uj1, o4]
        omega
      · rw [hs5, zf_1, if_neg (by decide), t1.1 75 3 (fun z => by omega)]
        exact f3
      · rw [hs5, zf_1, if_neg (fun z => absurd z.2 (by decide)), o1]
        omega
      · rw [eYt]
        refine WDz_app ?_ ?_
        · intro i c hc
          rw [r5]
          exact WDz_f t1 f5 (Int.le_refl _) i c hc
        · intro i c hc
          rw [r5]
          exact o2 i c hc
      · rw [eyt]
        refine TTz_app ?_ ?_
        · intro i c hc
          rw [r5]
          exact TTz_f t1 f6 (by rw [eyl]; exact Int.le_refl _) i c hc
        · rw [eyl]
          intro i c hc
          rw [r5]
          exact o3 i c hc
      · rw [uj1]
        omega
    refine ⟨fun z1 => main 0 ?_, fun z1 => main _ ?_⟩
    · rw [zg_K, at2, I2.1.1.1.1] at z1
      rw [n91 z1]
      decide
    · rw [zg_K, at2, I2.1.1.1.1] at z1
      rw [zg_K, at2, e91 z1]
      exact (I2.2.2.1 (a + 2) (by omega) (by omega)).1 z1
  · rw [if_pos (by omega)] at eRM
    exact blm 2 (Or.inl (by decide)) (by rw [eRM]; rfl)
end ZZMF
