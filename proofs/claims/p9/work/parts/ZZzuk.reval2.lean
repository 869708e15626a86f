/-! ===== the reference's run beside the pure machine: eval, whole ===== -/
section ZUR
variable {K L W ar kd : Int → Int} {TN Ls : List Int} {nI A0 A1 : Int} {own : Nat → Nat × Nat} {b n W' N T F H S0 : Nat} {G : PG} {S O c m : Nat} {lo' hi' : Int}
set_option maxHeartbeats 4000000 in
theorem m_240 {d : Nat} (hPR : PRm K L W ar kd nI lo' hi' TN Ls) (hFO : FOk K L W ar kd TN Ls nI) (hA1 : A1 ≤ 13000) (ih : REH own b n W' N T F H S0 G S O c m d) (ih2 : REH own b n W' N T F H S0 G S O (c + 1) 11 d) (ihS : RSm K L W ar kd TN Ls nI A0 A1 own b n W' N T F H S0 G S O c m d) (ihS2 : RSm K L W ar kd TN Ls nI A0 A1 own b n W' N T F H S0 G S O (c + 1) 11 d) (hd : 4 ≤ d) : RSm K L W ar kd TN Ls nI A0 A1 own b n W' N T F H S0 G S O c (m + 1) (d + 3) := by
  intro s a1 a2 a3 fo lo hi e fr ev b0 b1 E pl Vn vt Lc As Bs A S' β0 β1 m1 x' y' t Ev st bs frs vs fa C hR hX hfo hwE hhi hN hpl hE h1 h2 h3 hSC hEC hh
  have hv := RT_vt hR
  obtain ⟨p, hp, hw⟩ := hwE
  have he : e < hi := by
    cases p with
    | zero => exact hw.2.1
    | succ p => exact hw.1
  obtain ⟨x1, x2, x3, x4⟩ := id hX
  obtain ⟨⟨hTB, hCD⟩, ⟨⟨hEv, hRl⟩, ⟨hE1, hE2⟩, s16, s26⟩, ⟨hV, hVn⟩, ⟨hVV, hfr, hfc⟩, hl0⟩ := id hSC
  obtain ⟨hC, hm10, hpe, hx6, ht0, htn⟩ := hEC
  cases m1 with
  | zero => exact hC.elim
  | succ m' =>
  obtain ⟨k, hk20, hPc⟩ := hC
  obtain ⟨ea, nd, yy, ⟨n1, n2, n3⟩, ⟨nH, nC⟩, hch⟩ := ePc_ch k _ _ _ hPc
  obtain ⟨hHO, hps⟩ := pe_u (by omega) hpe
  have h46 : ∀ j, j < k → K (aIt K L j (aHd K L t)) = 46 := fun j hj => (hch j hj).1
  obtain ⟨hPO, hk2, -⟩ := pps_u (by omega) 20 _ hps k h46
  have hz := pps_z 20 _ hps
  rw [ea] at hz
  obtain ⟨evT, hevT⟩ : ∃ evT, evT = exE6 K L W ar kd TN Ls S' m' := ⟨_, rfl⟩
  obtain ⟨cd, hcd⟩ : ∃ cd, cd = ciE K L W ar kd TN Ls S' m' := ⟨_, rfl⟩
  have eS : exE6 K L W ar kd TN Ls S' (m' + 1) t = exS K L W ar kd TN Ls S' evT k (aHd K L t) (exH K L W ar kd TN Ls S' evT t) := by
    rw [hevT]
    exact exS_stop k 20 _ _ hk2 h46 hz
  rw [eS] at hx6
  have hx0 : ∀ j, j ≤ k → (exS K L W ar kd TN Ls S' evT j (aHd K L t) (exH K L W ar kd TN Ls S' evT t)).1 = 0 := fun j hj => by
    by_cases q : (exS K L W ar kd TN Ls S' evT j (aHd K L t) (exH K L W ar kd TN Ls S' evT t)).1 = 0
    · exact q
    · rw [exS_fl j k _ _ hj q] at hx6
      exact hx6
  have eI : ciE K L W ar kd TN Ls S' (m' + 1) t = ciH K L W ar TN S' cd t ++ ciS K L W ar kd TN Ls S' evT cd k (aHd K L t) (exH K L W ar kd TN Ls S' evT t) := by
    have e1 : ciE K L W ar kd TN Ls S' (m' + 1) t = ciH K L W ar TN S' cd t ++ ciS K L W ar kd TN Ls S' evT cd 20 (aHd K L t) (exH K L W ar kd TN Ls S' evT t) := by rw [hcd, hevT]; rfl
    rw [e1, ciS_stop k 20 _ _ hk2 h46 hz]
  have mo := aIt_lt (by omega) hPO
  have mo0 := mo 0 k (Nat.zero_le _) (Nat.le_refl _)
  have e00 : aIt K L 0 (aHd K L t) = aHd K L t := rfl
  rw [e00, ← ea] at mo0
  have hHt : t < aHd K L t := by
    by_cases hc : K (t + 1) = 123 ∨ K (t + 1) = 91
    · obtain ⟨hp', hO⟩ := hHO.2 hc
      have q1 := nxT_gt (m := m') (by omega) hp'
      have q2 := (AOk_o (by omega) hO).1
      omega
    · have : aHd K L t = t + 1 := if_neg hc
      omega
  have h88 : 88 * (c + 1) ≤ 3608 := by
    have := hR.2.2.2.2.2.2.2.2.2.2.2.2.2.2.2.2.2.2
    omega
  obtain ⟨R0, hR0⟩ : ∃ R0, R0 = ciS K L W ar kd TN Ls S' evT cd k (aHd K L t) (exH K L W ar kd TN Ls S' evT t) := ⟨_, rfl⟩
  have hRe0 : ciS K L W ar kd TN Ls S' evT cd k (aHd K L t) (exH K L W ar kd TN Ls S' evT t) = ciS K L W ar kd TN Ls S' evT cd 0 (aHd K L t) (exH K L W ar kd TN Ls S' evT t) ++ R0 := by
    rw [← hR0]
    rfl
  have hxH : (exH K L W ar kd TN Ls S' evT t).1 = 0 := hx0 0 (Nat.zero_le _)
  rw [eI, ← hR0, List.append_assoc]
  obtain ⟨X, hXe⟩ : ∃ X : PMs, X = (5, ciH K L W ar TN S' cd t ++ (R0 ++ C), st, bs, Ev, frs, vs, lft s, (s.1 93).toInt, fa) := ⟨_, rfl⟩
  rw [← hXe]
  have eBf : (8 : Int) * ((m' + 1 : Nat) : Int) + 100 * (41 - (c : Int)) = 8 * (m' : Int) + 8 + 100 * (41 - (c : Int)) := by omega
  rw [eBf]
  refine t_240 ?_
  unfold w_240_0
  refine ⟨fun z1 z2 z3 z4 u => u = s ∧ z1 = a1 ∧ z2 = a2 ∧ z3 = a3 ∧ ∃ (p kk i a hi1 : Nat) (A' : List Nat), z4.toInt = (a : Int) ∧ hi1 ≤ hi ∧ wEp G H b n (scX G fo) (tVX G fo) S O s (wE G H b n (scX G fo) (tVX G fo) S O s m) p lo hi1 a A' ∧ upC G H b n (scX G fo) S O s (wE G H b n (scX G fo) (tVX G fo) S O s m) hi e A kk a A' ∧ i + kk = k ∧ (a : Int) = nd i ∧ ∀ j, i ≤ j → j < k → (s.2.1 228 (nd j).toNat).toInt = nd (j + 1), fun _ _ _ z4 _ => z4.toInt.toNat, ⟨rfl, rfl, rfl, rfl, p, 0, k, e, hi, A, h1, Nat.le_refl _, hw, ⟨rfl, rfl⟩, rfl, n1.symm, fun j j1 j2 => by omega⟩, ?_⟩
  rintro z1 z2 z3 z4 u ⟨eu, e1, e2, e3, p, kk, i, a, hi1, A', h4, hh1, hp', hu, hik, hai, h228⟩
  have eu := eu.symm
  have e1 := e1.symm
  have e2 := e2.symm
  have e3 := e3.symm
  subst eu e1 e2 e3
  have hale := upC_le hu
  have okA' := (wEp_ok hp').1
  unfold w_240_2
  rw [show z4.toInt.toNat = a by omega]
  have i0 : (s.2.1 227 a).toInt < 0 → i = 0 := fun hneg => by
    cases i with
    | zero => rfl
    | succ i =>
      obtain ⟨-, ⟨q1, q2, -⟩, -⟩ := hch i (by omega)
      rw [← hai, Int.toNat_natCast] at q2
      have hnn : 0 ≤ nd i := by
        cases i with
        | zero =>
          rw [n3]
          exact nH.1.1
        | succ i => exact (hch i (by omega)).2.1.1.1
      omega
  refine ⟨by omega, fun hneg => ⟨by omega, fun hs => ?_, fun hvar => ⟨by omega, ?_⟩⟩, fun hpos => ⟨by omega, ?_⟩⟩
  · have ei := i0 hneg
    subst ei
    have hax : (a : Int) = x' := by rw [hai, n3]
    cases p with
    | succ p =>
      obtain ⟨-, a', A0', q1, -⟩ := hp'
      omega
    | zero =>
      obtain ⟨q1, q2, q3, q4, q5, q6⟩ := hp'
      have h22 : (s.2.1 221 a).toInt = 2 := by
        rcases q4 with ⟨q, -⟩ | ⟨q, -⟩
        · exact absurd q hs
        · exact q
      rw [← hax] at nH nC
      have hcK : K (t + 1) = 123 ∨ K (t + 1) = 91 := by
        by_cases q : K (t + 1) = 123 ∨ K (t + 1) = 91
        · exact q
        · obtain ⟨-, -, w⟩ := nH
          rw [if_neg q, Int.toNat_natCast] at w
          have := w.1
          omega
      have eL : ciH K L W ar TN S' cd t = ciL K L W ar TN S' cd t := if_pos hcK
      have eX : exH K L W ar kd TN Ls S' evT t = exL K L W ar kd TN Ls S' evT t := if_pos hcK
      refine Tot.imp (Tot.mono (by omega) (Tot_and (s_241 ih hd hR hX hfo h22 q4 (by omega) (by omega) hN hpl hE h4 h2 h3) (m_241 (C := R0 ++ C) (fa := fa) hPR hA1 ih ihS hd hR hX hfo h22 q4 (by omega) (by omega) hN hpl hE h4 h2 h3 hSC (by omega) hcK nH nC hHO (by rw [← hevT, ← eX]; exact hxH) ht0 (by omega) hh))) ?_
      rintro v s1 ⟨hq, hsm⟩
      obtain ⟨x, rfl, -⟩ := id hq
      refine ⟨x, rfl, ?_⟩
      rw [← hcd, ← eL, ← hXe] at hsm
      exact m39 (nd := nd) (yy := yy) (t := t) hPR hFO hA1 ih ih2 ihS ihS2 hd hR hX hfo hhi hN hpl hE he h1 h2 h3 h4 hu okA' hq hSC (by omega) (by omega) hch hPO (by rw [← hevT]; exact hx0) (by rw [← ea]; exact htn) (fun j hj => h228 j (Nat.zero_le _) hj) hik hai (by rw [← hevT, ← hcd]; exact hRe0) hsm hh
  · have ei := i0 hneg
    subst ei
    have hax : (a : Int) = x' := by rw [hai, n3]
    cases p with
    | succ p =>
      obtain ⟨-, a', A0', q1, -⟩ := hp'
      omega
    | zero =>
      obtain ⟨q1, q2, q3, q4, q5, q6⟩ := hp'
      obtain ⟨k0, y1, y2⟩ : ∃ k : Nat, (s.2.1 230 a).toInt = (k : Int) ∧ tVX G fo k = some A' := by
        rcases q4 with ⟨-, q⟩ | ⟨q, -⟩
        · exact q
        · omega
      obtain ⟨y3, w, y4, y5, y6⟩ := x4 k0 A' y2
      refine ⟨by omega, fun x4' hx4 => ⟨by omega, ?_⟩⟩
      rintro s5 rfl
      rw [show x4'.toInt.toNat = fr + k0 by omega]
      obtain ⟨r1, r2, r3, r4, r5, r6, r7, r8, r9, r10, r11, r12, r13, r14, r15, r16, r17, r18, r19⟩ := id hR
      have X5 : RX rK E pl Vn vt s (sf s 102 (s.2.1 278 (fr + k0))) := RX_sf (RX_rf r1.2.2.2.2.1 r1.2.2.2.2.2.1) (by decide)
      rw [← hax] at nH nC
      have hcK : ¬ (K (t + 1) = 123 ∨ K (t + 1) = 91) := fun q => by
        obtain ⟨-, -, w⟩ := nH
        rw [if_pos q, Int.toNat_natCast] at w
        have := w.1
        omega
      have eL : ciH K L W ar TN S' cd t = ciV W S' t := if_neg hcK
      unfold cHd at nC
      rw [if_neg hcK, Int.toNat_natCast] at nC
      have hlt := fIx_lt (p := wEq W t) (l := S'.2.2.2.1)
      have hk0 : k0 < S'.2.2.2.1.length := by omega
      obtain ⟨w', v1, v2⟩ := hVV.2 k0 hk0
      have ew : w' = w := by omega
      subst ew
      have kk5 : ∀ j, ¬ j = 102 → (sf s 102 (s.2.1 278 (fr + k0))).1 j = s.1 j := fun j hj => by rw [sf_1, if_neg hj]
      have el5 : lft (sf s 102 (s.2.1 278 (fr + k0))) = lft s := lft_e (fun k w => kk5 k (by omega))
      have hsm : SmQ ar (fcD K L W ar kd TN Ls) (mvC K L W ar kd TN Ls) (TN.length : Int) G X (R0 ++ C) st bs Ev frs vs (lft s) fa 1 (8 * (m' : Int) + 8 + 100 * (41 - (c : Int))) s (some (.int 0)) (sf s 102 (s.2.1 278 (fr + k0))) := by
        refine ⟨0, vs, (s.1 93).toInt, 1, rfl, ⟨⟨[], by rw [List.append_nil]⟩, vRl_2 (s := s) rfl hV, by rw [kk5 98 (by decide), hVn]; exact r7⟩, ⟨by omega, by omega, by rw [kk5 93 (by decide)], kp6_e (fun k w => by rcases w with rfl | rfl | rfl <;> exact kk5 _ (by decide)) kp6_rf⟩, fun _ => kk5 92 (by decide), Or.inl ⟨rfl, w', y4, by omega, by show ((1 : Nat) : Int) ≤ _; omega, ?_⟩⟩
        rw [hXe, eL, el5]
        refine PSn_1 ⟨rfl, by omega, Or.inl ⟨rfl, by show 0 ≤ fIx (wEq W t) 0 S'.2.2.2.1; omega, hfr (fun q => by rw [q] at hk0; exact absurd hk0 (Nat.not_lt_zero _)), w', ?_, rfl⟩⟩
        show st[bs + (fIx (wEq W t) 0 S'.2.2.2.1).toNat]? = _
        rw [show (fIx (wEq W t) 0 S'.2.2.2.1).toNat = k0 by omega]
        exact v2
      refine m39 (nd := nd) (yy := yy) (t := t) hPR hFO hA1 ih ih2 ihS ihS2 hd hR hX hfo hhi hN hpl hE he h1 h2 h3 h4 hu okA' ⟨0, rfl, by decide, X5, Vn, vt, Lc, RT_rx hR X5 (by decide) r4 r5 r6 r7 r8 r9 r11 r12 r13 (Nat.le_refl _) (Nat.le_refl _) r16 r19, Nat.le_refl _, Nat.le_refl _, Nat.le_refl _, fun _ => ⟨w', y4, y5, ?_⟩⟩ hSC (by omega) (by omega) hch hPO (by rw [← hevT]; exact hx0) (by rw [← ea]; exact htn) (fun j hj => h228 j (Nat.zero_le _) hj) hik hai (by rw [← hevT, ← hcd]; exact hRe0) hsm hh
      rw [RX_VT X5 y5 (r17 w' y5) (by omega)]
      exact y6
  · cases p with
    | zero =>
      obtain ⟨q1, q2, q3, q4, q5, q6⟩ := hp'
      omega
    | succ p =>
      obtain ⟨q0, a', A0', q1, q2, q3, q4, q5, q6⟩ := hp'
      have hlt : a' < a := by
        cases p with
        | zero => exact q3.2.1
        | succ p => exact q3.1
      cases i with
      | zero =>
        exfalso
        have w := nH.2.1
        rw [← n3, ← hai, Int.toNat_natCast] at w
        omega
      | succ i =>
        obtain ⟨-, ⟨w1, w2, -⟩, -⟩ := hch i (by omega)
        rw [← hai, Int.toNat_natCast, q1] at w2
        refine ⟨⟨rfl, rfl, rfl, rfl, p, kk + 1, i, a', a, A0', q1, by omega, q3, ⟨by omega, a, hi1, A', q2, hlt, hale, q0, hh1, q4, q5, hu⟩, by omega, w2, fun j j1 j2 => ?_⟩, ?_⟩
        · by_cases ej : j = i
          · rw [ej, ← w2, Int.toNat_natCast, q2, hai]
          · exact h228 j (by omega) j2
        · show (s.2.1 227 a).toInt.toNat < z4.toInt.toNat
          omega
theorem RSm_mo {d d' : Nat} (h : d ≤ d') (hR : RSm K L W ar kd TN Ls nI A0 A1 own b n W' N T F H S0 G S O c m d) : RSm K L W ar kd TN Ls nI A0 A1 own b n W' N T F H S0 G S O c m d' := by
  intro s a1 a2 a3 fo lo hi e fr ev b0 b1 E pl Vn vt Lc As Bs A S' β0 β1 m1 x' y' t Ev st bs frs vs fa C k1 k2 k3 k4 k5 k6 k7 k8 k9 k10 k11 k12 k13 k14
  exact Tot.mono h (hR s a1 a2 a3 fo lo hi e fr ev b0 b1 E pl Vn vt Lc As Bs A S' β0 β1 m1 x' y' t Ev st bs frs vs fa C k1 k2 k3 k4 k5 k6 k7 k8 k9 k10 k11 k12 k13 k14)
theorem RSm_all (hPR : PRm K L W ar kd nI lo' hi' TN Ls) (hFO : FOk K L W ar kd TN Ls nI) (hA1 : A1 ≤ 13000) : ∀ (k c : Nat), c + k = 41 → ∀ m, RSm K L W ar kd TN Ls nI A0 A1 own b n W' N T F H S0 G S O c m (4 + 36 * k + 3 * m)
  | 0, c, hc, m => by
    intro s a1 a2 a3 fo lo hi e fr ev b0 b1 E pl Vn vt Lc As Bs A S' β0 β1 m1 x' y' t Ev st bs frs vs fa C hR
    have := hR.2.2.2.2.2.2.2.2.2.2.2.2.2.2.2.2.2.2
    omega
  | k + 1, c, hc, 0 => by
    intro s a1 a2 a3 fo lo hi e fr ev b0 b1 E pl Vn vt Lc As Bs A S' β0 β1 m1 x' y' t Ev st bs frs vs fa C hR hX hfo hw
    exact absurd hw id
  | k + 1, c, hc, m + 1 => by
    have h1 := RSm_all hPR hFO hA1 (k + 1) c hc m
    have h2 := RSm_all hPR hFO hA1 k (c + 1) (by omega) 11
    have g1 := REH_all (own := own) (b := b) (n := n) (W := W') (N := N) (T := T) (F := F) (H := H) (S0 := S0) (G := G) (S := S) (O := O) (k + 1) c hc m
    have g2 := REH_all (own := own) (b := b) (n := n) (W := W') (N := N) (T := T) (F := F) (H := H) (S0 := S0) (G := G) (S := S) (O := O) k (c + 1) (by omega) 11
    exact RSm_mo (by omega) (m_240 (d := 4 + 36 * (k + 1) + 3 * m) hPR hFO hA1 g1 (REH_mo (by omega) g2) h1 (RSm_mo (by omega) h2) (by omega))
end ZUR
