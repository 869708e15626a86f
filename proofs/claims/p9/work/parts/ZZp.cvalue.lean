/-! ===== the class: value ===== -/
section ZZVL
variable {K L W ar kd : Int → Int} {TN Ls : List Int} {n lo hi lo' hi' B b β0 β1 k0 T0 : Int} {S : Scp} {d P m : Nat} {ev : Int → Int × List Int}
theorem exS_fl : ∀ (kk q : Nat) (a : Int) (r : Int × List Int), kk ≤ q → ¬ (exS K L W ar kd TN Ls S ev kk a r).1 = 0 → exS K L W ar kd TN Ls S ev q a r = exS K L W ar kd TN Ls S ev kk a r
  | 0, q, a, r, _, h => exS_b q a r h
  | kk + 1, 0, a, r, h, _ => absurd h (Nat.not_succ_le_zero _)
  | kk + 1, q + 1, a, r, hq, h => by
    by_cases c : r.1 = 0 ∧ K a = 46
    · have e1 : exS K L W ar kd TN Ls S ev (kk + 1) a r = exS K L W ar kd TN Ls S ev kk (aPt K L a) (exO K L W ar kd TN Ls S ev a r.2) := if_pos c
      have e2 : exS K L W ar kd TN Ls S ev (q + 1) a r = exS K L W ar kd TN Ls S ev q (aPt K L a) (exO K L W ar kd TN Ls S ev a r.2) := if_pos c
      rw [e1] at h ⊢
      rw [e2]
      exact exS_fl kk q _ _ (by omega) h
    · have e1 : exS K L W ar kd TN Ls S ev (kk + 1) a r = r := if_neg c
      have e2 : exS K L W ar kd TN Ls S ev (q + 1) a r = r := if_neg c
      rw [e1, e2]
theorem ciS_snoc {cd : Int → List Ins} : ∀ (k : Nat) (a : Int) (r : Int × List Int), (∀ j, j < k + 1 → K (aIt K L j a) = 46) → (exS K L W ar kd TN Ls S ev k a r).1 = 0 → ciS K L W ar kd TN Ls S ev cd (k + 1) a r = ciS K L W ar kd TN Ls S ev cd k a r ++ ciO K L W ar TN Ls S cd (aIt K L k a) (exS K L W ar kd TN Ls S ev k a r).2
  | 0, a, r, h, hr => by
    have hr : r.1 = 0 := hr
    show (if r.1 = 0 ∧ K a = 46 then ciO K L W ar TN Ls S cd a r.2 ++ [] else []) = [] ++ ciO K L W ar TN Ls S cd a r.2
    rw [if_pos ⟨hr, h 0 (by omega)⟩, List.append_nil, List.nil_append]
  | k + 1, a, r, h, hr => by
    have h0 : K a = 46 := h 0 (by omega)
    have hr0 : r.1 = 0 := by
      by_cases q : r.1 = 0
      · exact q
      · rw [exS_b _ _ _ q] at hr
        exact hr
    have e1 : ∀ i, exS K L W ar kd TN Ls S ev (i + 1) a r = exS K L W ar kd TN Ls S ev i (aPt K L a) (exO K L W ar kd TN Ls S ev a r.2) := fun i => if_pos ⟨hr0, h0⟩
    have e2 : ∀ i, ciS K L W ar kd TN Ls S ev cd (i + 1) a r = ciO K L W ar TN Ls S cd a r.2 ++ ciS K L W ar kd TN Ls S ev cd i (aPt K L a) (exO K L W ar kd TN Ls S ev a r.2) := fun i => if_pos ⟨hr0, h0⟩
    rw [e1 k] at hr
    rw [e2 (k + 1), e2 k, e1 k, ciS_snoc k (aPt K L a) _ (fun j hj => by rw [aIt_c]; exact h (j + 1) (by omega)) hr, aIt_c, List.append_assoc]
theorem ciS_stop {cd : Int → List Ins} : ∀ (k q : Nat) (a : Int) (r : Int × List Int), k ≤ q → (∀ j, j < k → K (aIt K L j a) = 46) → ¬ K (aIt K L k a) = 46 → ciS K L W ar kd TN Ls S ev cd q a r = ciS K L W ar kd TN Ls S ev cd k a r
  | 0, 0, _, _, _, _, _ => rfl
  | 0, q + 1, a, r, _, _, h => if_neg (fun z => h z.2)
  | k + 1, 0, _, _, hk, _, _ => absurd hk (Nat.not_succ_le_zero _)
  | k + 1, q + 1, a, r, hk, h1, h2 => by
    have h0 : K a = 46 := h1 0 (by omega)
    by_cases hr : r.1 = 0
    · have e2 : ∀ i, ciS K L W ar kd TN Ls S ev cd (i + 1) a r = ciO K L W ar TN Ls S cd a r.2 ++ ciS K L W ar kd TN Ls S ev cd i (aPt K L a) (exO K L W ar kd TN Ls S ev a r.2) := fun i => if_pos ⟨hr, h0⟩
      rw [e2 q, e2 k, ciS_stop k q (aPt K L a) _ (by omega) (fun j hj => by rw [aIt_c]; exact h1 (j + 1) (by omega)) (by rw [aIt_c]; exact h2)]
    · have e3 : ∀ i, ciS K L W ar kd TN Ls S ev cd (i + 1) a r = [] := fun i => if_neg (fun z => hr z.1)
      rw [e3 q, e3 k]
theorem pps_e {g : RSt → RSt} {a : Int} (h : ¬ K a = 46) : ∀ q : Nat, p_ps K L g q (0, a) = (0, a)
  | 0 => if_neg (fun z => h (of_decide_eq_true z).2)
  | q + 1 => if_neg (fun z => h (of_decide_eq_true z).2)
set_option maxHeartbeats 4000000 in
theorem C7_s (hP : P = 3 ∨ P = 39) (hW : EWd K L W ar kd TN Ls n lo' hi' B b β0 β1 S) (hm : m ≤ 9) (hd : 11 ≤ d) (l1 : S.1.length ≤ 6) (l2 : S.2.1.length ≤ 6) (hT0 : 18 ≤ T0) (hV : VTy ar (TN.length : Int) S) (ih : C7 K L W ar kd TN Ls n k0 S P lo hi T0 m (d + 11)) : C7 K L W ar kd TN Ls n k0 S P lo hi T0 (m + 1) (d + 16) := by
  intro a1 t T k s I hf0 hat h1 hp ht0 hn hlo hhi ht hT hk hk0 hk1 hk2 hz
  have h := hW.1
  have hnn := h.1.1.1
  obtain ⟨u1, u2⟩ := pe_u (by omega) hp
  have hgt := nxE_gt (m := m + 1) (by omega) hp
  obtain ⟨hK1, hHd⟩ := u1
  obtain ⟨ev, hev⟩ : ∃ ev, ev = exE6 K L W ar kd TN Ls S m := ⟨_, rfl⟩
  obtain ⟨r0, hr0⟩ : ∃ r0, r0 = exH K L W ar kd TN Ls S ev t := ⟨_, rfl⟩
  have eE : exE6 K L W ar kd TN Ls S (m + 1) t = exS K L W ar kd TN Ls S ev 20 (aHd K L t) r0 := by
    rw [hr0, hev]
    rfl
  obtain ⟨cd, hcd⟩ : ∃ cd, cd = ciE K L W ar kd TN Ls S m := ⟨_, rfl⟩
  obtain ⟨c0, hc0⟩ : ∃ c0, c0 = ciH K L W ar TN S cd t := ⟨_, rfl⟩
  have eC : ciE K L W ar kd TN Ls S (m + 1) t = c0 ++ ciS K L W ar kd TN Ls S ev cd 20 (aHd K L t) r0 := by
    rw [hr0, hev, hc0, hcd]
    rfl
  rw [eE, eC]
  have eK : ∀ {w : zS}, CFe P T k s w → KI (w.2 (P + 4)) = K := fun F => by
    rw [CFe_r F (by decide) hP]
    exact I.1.1.1.1
  -- order of the tokens
  have hle : ∀ kk, (∀ j, j < kk → K (aIt K L j (aHd K L t)) = 46) → (∀ j, j < kk → POk K L m (aIt K L j (aHd K L t))) ∧ kk ≤ 20 ∧ (¬ K (aIt K L kk (aHd K L t)) = 46 → aIt K L kk (aHd K L t) = nxE K L t) ∧ aIt K L kk (aHd K L t) ≤ nxE K L t := fun kk hkk => by
    obtain ⟨p1, p2, p3⟩ := pps_u (m := m) (by omega) 20 (aHd K L t) u2 kk hkk
    refine ⟨p1, p2, fun z => ?_, ?_⟩
    · rw [pps_e z] at p3
      exact congrArg Prod.snd p3
    · have fwg : ∀ σ, (p_po K L (p_t K L m) (p_e K L m) σ).1 = 0 → σ.1 = 0 ∧ σ.2 < (p_po K L (p_t K L m) (p_e K L m) σ).2 := fun σ h => by
        have := ppo_fw (pt_fw m) (pe_fw m) h
        exact ⟨this.1, by omega⟩
      have := (pps_fw fwg (20 - kk) (0, aIt K L kk (aHd K L t)) (by rw [p3])).2
      rw [p3] at this
      exact this
  have hHle : aHd K L t ≤ nxE K L t := (hle 0 (fun j hj => absurd hj (Nat.not_lt_zero _))).2.2.2
  -- the points
  have loop : ∀ (x3 a3 : Int32) (s2 : zS), CPz ar (TN.length : Int) S P T k t (aHd K L t) r0 c0 s s2 x3 → v_7_35 (fun j => Zt (d + 7 + 8) (wd P j) j) P a1 (s.1 75 3) a3 x3 s2 (fun v s' => ∃ r : Int32, v = some (.int r) ∧ CPz ar (TN.length : Int) S P T k t (nxE K L t) (exS K L W ar kd TN Ls S ev 20 (aHd K L t) r0) (c0 ++ ciS K L W ar kd TN Ls S ev cd 20 (aHd K L t) r0) s s' r) := by
    intro x3 a3 s2 h0
    unfold v_7_35
    refine ⟨fun b1 b2 b3 b4 b5 w => b1 = a1 ∧ b2 = s.1 75 3 ∧ ∃ kk : Nat, b5.toInt = (kk : Int) ∧ (∀ j, j < kk → K (aIt K L j (aHd K L t)) = 46) ∧ CPz ar (TN.length : Int) S P T k t (aIt K L kk (aHd K L t)) (exS K L W ar kd TN Ls S ev kk (aHd K L t) r0) (c0 ++ ciS K L W ar kd TN Ls S ev cd kk (aHd K L t) r0) s w b4, fun _ _ _ _ b5 _ => (100 - b5.toInt).toNat, ⟨rfl, rfl, 0, by decide, fun j hj => absurd hj (Nat.not_lt_zero _), by
      rw [show ciS K L W ar kd TN Ls S ev cd 0 (aHd K L t) r0 = [] from rfl, List.append_nil]
      exact h0⟩, ?_⟩
    rintro b1 b2 b3 b4 b5 w ⟨e1, e2, kk, k1, k2, k3⟩
    subst e1 e2
    obtain ⟨g1, g2, g3, g4⟩ := hle kk k2
    have fin : (¬ (w.1 P 14).toInt = 0 ∨ ¬ K (aIt K L kk (aHd K L t)) = 46) → v_7_63 (fun j => Zt (d + 7 + 8) (wd P j) j) P b1 (s.1 75 3) b3 b4 b5 w (fun v s' => ∃ r : Int32, v = some (.int r) ∧ CPz ar (TN.length : Int) S P T k t (nxE K L t) (exS K L W ar kd TN Ls S ev 20 (aHd K L t) r0) (c0 ++ ciS K L W ar kd TN Ls S ev cd 20 (aHd K L t) r0) s s' r) := by
      intro hc
      unfold v_7_63
      refine ⟨b4, rfl, ?_⟩
      by_cases z : (w.1 P 14).toInt = 0
      · have z46 : ¬ K (aIt K L kk (aHd K L t)) = 46 := by
          rcases hc with q | q
          · exact absurd z q
          · exact q
        rw [exS_stop kk 20 _ _ g2 k2 z46, ciS_stop kk 20 _ _ g2 k2 z46, ← g3 z46]
        exact k3
      · have z1 := z
        rw [k3.1] at z1
        rw [exS_fl kk 20 _ _ g2 z1]
        exact ⟨k3.1, fun q => absurd q z1⟩
    have no20 : kk = 20 → ¬ K (aIt K L kk (aHd K L t)) = 46 := fun e q => by
      have := (hle (kk + 1) (fun j hj => by
        by_cases ej : j = kk
        · rw [ej]
          exact q
        · exact k2 j (by omega))).2.1
      omega
    unfold v_7_38
    refine ⟨fun w1 => fin (Or.inr (no20 (by omega))), fun w1 => ⟨fun w2 => fin (Or.inl w2), fun w2 => ?_⟩⟩
    have z0 : (exS K L W ar kd TN Ls S ev kk (aHd K L t) r0).1 = 0 := by rw [← k3.1]; exact w2
    obtain ⟨c1, c2, ⟨cd1, cd2⟩, T1, kp, ⟨c3, c4, c5⟩, ⟨c6, c7, c8⟩, c9⟩ := k3.2 z0
    rw [zg_K, eK c1, c2]
    refine ⟨fun w3 => fin (Or.inr w3), fun w3 => ?_⟩
    obtain ⟨a, hadef⟩ : ∃ a, a = aIt K L kk (aHd K L t) := ⟨_, rfl⟩
    obtain ⟨p1, p2, p3, p4⟩ := hle (kk + 1) (fun j hj => by
      by_cases ej : j = kk
      · rw [ej]
        exact w3
      · exact k2 j (by omega))
    have pPO := p1 kk (by omega)
    have ePt : aIt K L (kk + 1) (aHd K L t) = aPt K L a := by rw [hadef]; rfl
    have eS := exS_snoc (K := K) (L := L) (W := W) (ar := ar) (kd := kd) (TN := TN) (Ls := Ls) (S := S) (ev := ev) kk (aHd K L t) r0 (fun j hj => by
      by_cases ej : j = kk
      · rw [ej]
        exact w3
      · exact k2 j (by omega))
    rw [if_pos z0] at eS
    have eCd := ciS_snoc (K := K) (L := L) (W := W) (ar := ar) (kd := kd) (TN := TN) (Ls := Ls) (S := S) (ev := ev) (cd := cd) kk (aHd K L t) r0 (fun j hj => by
      by_cases ej : j = kk
      · rw [ej]
        exact w3
      · exact k2 j (by omega)) z0
    rw [ePt] at p3 p4
    rw [← hadef] at c2 c8 pPO eS eCd cd2
    obtain ⟨A, hA⟩ : ∃ A, A = (exS K L W ar kd TN Ls S ev kk (aHd K L t) r0).2 := ⟨_, rfl⟩
    rw [← hA] at c9 eS eCd
    rw [c6] at cd1
    have hzw : SZc P w a := SZc_c hz cd1 cd2
    have po1 := (POk_o (by omega) pPO).1
    have hHt : t < aHd K L t := by
      by_cases q : K (t + 1) = 123 ∨ K (t + 1) = 91
      · have q1 := nxT_gt (m := m) (by omega) (hHd q).1
        have q2 := (AOk_o (by omega) (hHd q).2).1
        omega
      · unfold aHd
        rw [if_neg q]
        omega
    have hta : aHd K L t ≤ a := by
      rw [hadef]
      have := aIt_lt (m := m) (a := aHd K L t) (k := kk) (by omega) (fun j hj => g1 j hj) 0 kk (Nat.zero_le _) (Nat.le_refl _)
      exact this
    have Iw := CIn_e hP hT0 hT.1 hk0 c1 I
    refine Zt.imp (zs_8 (d := d) (m := m) (a := a) (T := T1) (k := kp) (A := A) hP hW (by omega) ih hd Iw l1 l2 hT0 w2 c2 (by omega) pPO (by omega) (by omega) (by omega) c3 ⟨by omega, by omega⟩ c6 (by omega) (by omega) (by omega) c9 (by omega) hzw) ?_
    rintro v1 s3 ⟨x4, rfl, d1, d2⟩
    rw [← hev, ← hcd, ← eS] at d1
    rw [← hev, ← eS] at d2
    refine ⟨x4, rfl, ?_⟩
    by_cases z1 : (exS K L W ar kd TN Ls S ev (kk + 1) (aHd K L t) r0).1 = 0
    · obtain ⟨f1, f2, ⟨fd1, fd2⟩, T2, k2', ⟨f3, f4, f5⟩, ⟨f6, f7, f8⟩, f9⟩ := d1.2 z1
      rw [f6] at fd1
      have hTr := d2 z1
      obtain ⟨A2, hA2⟩ : ∃ A2, A2 = (exS K L W ar kd TN Ls S ev (kk + 1) (aHd K L t) r0).2 := ⟨_, rfl⟩
      rw [← hA2] at f9
      have F3 : CFe P T k s s3 := CFe_tr c1 f1 c4 c7
      have I3 := CIn_e hP hT0 hT.1 hk0 F3 I
      have f91 := f9.1
      refine Zt.imp (Zt.mo (d := 10) (by omega) (zs_91 (d := 0) (ar := ar) (A := A2) (mk := T) hP I3.1.1.1.2.2.2 (PR_ar h).1 f9.2.2.1 f9.2.2.2.1.1 ⟨by omega, by omega⟩ ht (by omega) f9.2.1 (by omega))) ?_
      rintro v4 s5 ⟨m1, x6, rfl, m2, m3, m4⟩
      refine ⟨x6, rfl, fun x7 hx7 => ?_⟩
      have ex7 := hx7 (by omega)
      have F5 : CFe P T k s s5 := CFe_tr F3 (CFe_pf m1) (Int.le_refl _) (Int.le_refl _)
      have fl5 : ∀ c q, ¬ (c = 75 ∧ q = 3) → s5.1 c q = s3.1 c q := m1.2.2
      refine ⟨⟨rfl, rfl, kk + 1, by omega, fun j hj => ?_, ?_, fun _ => ⟨F5, ?_, ⟨?_, ?_⟩, ?_⟩⟩, by dsimp only; omega⟩
      · by_cases ej : j = kk
        · rw [ej]
          exact w3
        · exact k2 j (by omega)
      · rw [fl5 P 14 (fun z => absurd z.2 (by decide))]
        exact d1.1
      · rw [fl5 84 5 (by decide), ePt]
        exact f2
      · rw [fl5 P 10 (fun z => absurd z.2 (by decide)), f6, eCd, ← List.append_assoc]
        exact CDx_r (T := T) (k := k2') (CFe_pf m1) (Int.le_refl _) (fl5 _ _ (fun z => absurd z.2 (by decide))) (m1.1 _ (by omega)) (CDx_tr cd1 fd1 f1 f7)
      · rw [eCd, ← List.append_assoc, List.length_append, ePt]
        omega
      · rw [← hA2, ePt]
        have hk5 : (s5.1 P 10).toInt = k2' := by
          rw [fl5 P 10 (fun z => absurd z.2 (by decide))]
          exact f6
        rcases m4 with ⟨n1, n2, n3⟩ | ⟨n1, n2, n3⟩
        · refine ⟨T, k2', ⟨n3, Int.le_refl _, by omega⟩, ⟨hk5, by omega, by omega⟩, ⟨⟨m3, ?_⟩, m2, f9.2.2⟩⟩
          rw [n1] at n2 ⊢
          unfold APt at n2
          omega
        · exact ⟨T + (A2.length : Int), k2', ⟨n3, by omega, by have := f9.2.2.2.1.1; omega⟩, ⟨hk5, by omega, by omega⟩, ⟨⟨m3, Or.inl (by omega)⟩, m2, f9.2.2⟩⟩
    · refine Zt.imp (Zt.mo (d := 10) (by omega) (zs_91x (d := 0) hP (by omega))) ?_
      rintro v4 s5 ⟨⟨x6, rfl⟩, m1⟩
      refine ⟨x6, rfl, fun x7 hx7 => ?_⟩
      have ex7 := hx7 (by omega)
      refine ⟨⟨rfl, rfl, kk + 1, by omega, fun j hj => ?_, ?_, fun z => absurd z z1⟩, by dsimp only; omega⟩
      · by_cases ej : j = kk
        · rw [ej]
          exact w3
        · exact k2 j (by omega)
      · rw [m1]
        exact d1.1
  rw [show d + 16 = d + 7 + 9 by omega]
  refine zc_7 hP ?_
  unfold v_7_0
  refine ⟨fun w1 x1 hx1 => ?_, fun w1 => by omega⟩
  have ex1 := hx1 (by omega)
  have eK1 : (zg s (P + 4) x1).toInt = K (t + 1) := by
    rw [zg_K, eK CFe_rf, ex1, hat]
  have lit : (K (t + 1) = 123 ∨ K (t + 1) = 91) → v_7_29 (fun j => Zt (d + 7 + 8) (wd P j) j) P a1 (s.1 75 3) (zg s (P + 4) x1) s (fun v s' => ∃ r : Int32, v = some (.int r) ∧ CPz ar (TN.length : Int) S P T k t (nxE K L t) (exS K L W ar kd TN Ls S ev 20 (aHd K L t) r0) (c0 ++ ciS K L W ar kd TN Ls S ev cd 20 (aHd K L t) r0) s s' r) := by
    intro hb
    obtain ⟨hp1, hAO⟩ := hHd hb
    unfold v_7_29
    refine Zt.imp (Zt.mo (d := d + 14) (by omega) (zs_10 (d := d) (m := m) (t := t) (T := T) (k := k) hP hW (by omega) ih hd I l1 l2 hT0 hf0 hat ht0 hp1 hAO (by omega) hlo (by omega) ht ⟨hT.1, by omega⟩ hk hk0 hk1 (by omega) (by omega) hz)) ?_
    rintro v1 s2 ⟨x3, rfl, c⟩
    have er : exL K L W ar kd TN Ls S ev t = r0 := by
      rw [hr0]
      exact (if_pos hb).symm
    have ec0 : ciL K L W ar TN S cd t = c0 := by
      rw [hc0]
      exact (if_pos hb).symm
    rw [← hev, er, ← hcd, ec0] at c
    exact ⟨x3, rfl, loop x3 _ s2 c⟩
  rw [eK1]
  refine ⟨fun z => lit (Or.inl z), fun z => ⟨fun z1 => ?_, fun z1 => lit (Or.inr z1)⟩⟩
  have hno : ¬ (K (t + 1) = 123 ∨ K (t + 1) = 91) := fun q => by
    rcases q with q | q
    · exact z q
    · exact z1 q
  have eh : aHd K L t = t + 1 := if_neg hno
  have er : exV L W S t = r0 := by
    rw [hr0]
    exact (if_neg hno).symm
  have ec0 : ciV W S t = c0 := by
    rw [hc0]
    exact (if_neg hno).symm
  refine Zt.imp (Zt.mo (d := 10) (by omega) (zs_9 (d := 0) (t := t) (T := T) (k := k) hP h I hV hf0 hat ⟨ht0, by omega⟩ ht hT.1 hk0 hk hz (by omega))) ?_
  rintro v2 s3 ⟨x4, rfl, c⟩
  rw [er, ec0, ← eh] at c
  exact ⟨x4, rfl, loop x4 _ s3 c⟩
theorem C7_all (hP : P = 3 ∨ P = 39) (hW : EWd K L W ar kd TN Ls n lo' hi' B b β0 β1 S) (l1 : S.1.length ≤ 6) (l2 : S.2.1.length ≤ 6) (hT0 : 18 ≤ T0) (hV : VTy ar (TN.length : Int) S) : ∀ m, m ≤ 10 → C7 K L W ar kd TN Ls n k0 S P lo hi T0 m (22 + 5 * m)
  | 0, _ => fun a1 t T k s _ _ _ _ hp => absurd (show (e_f K L true (0, t)).1 = 0 from hp) (fun w => ef_t w)
  | m + 1, hm => by
    have ih := C7_all hP hW l1 l2 hT0 hV m (by omega)
    have := C7_s (d := 11 + 5 * m) (m := m) hP hW (by omega) (by omega) l1 l2 hT0 hV (by rw [show 11 + 5 * m + 11 = 22 + 5 * m by omega]; exact ih)
    rw [show 11 + 5 * m + 16 = 22 + 5 * (m + 1) by omega] at this
    exact this
end ZZVL
