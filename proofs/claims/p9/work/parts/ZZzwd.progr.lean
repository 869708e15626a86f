/-! ===== program: class and reference ===== -/
theorem RW_bp {s : yS} (h : BP s) : RWel s 0 [40000, 40008, 40016, 40024, 40032, 40040] := fun i c hc => by
  have hi : i < 6 := (List.getElem?_eq_some_iff.mp hc).1
  have e := h i hi
  unfold tyE at e
  rw [Int.zero_add, KI_n]
  have hc' : c = 40000 + 8 * (i : Int) := by
    have : i = 0 ∨ i = 1 ∨ i = 2 ∨ i = 3 ∨ i = 4 ∨ i = 5 := by omega
    rcases this with rfl | rfl | rfl | rfl | rfl | rfl <;> (simp at hc; omega)
  omega
theorem RCn_of {K L W ar kd : Int → Int} {TN Ls : List Int} {n B b mB : Int} {u : yS} (hS : RPs K L W ar kd TN Ls n B b mB u) (h29 : (u.1 29).toInt = b) : RCn (TN.length : Int) (kFn K Ls : Int) u := by
  obtain ⟨s0, ⟨A0, x, y, g1, -⟩, hr, -⟩ := hS
  unfold RCn
  rw [h29, hr 233 (by decide) (by decide), hr 252 (by decide) (by decide)]
  exact ⟨g1.1.2.2.2.1.1, g1.2.2.2.1⟩
/-- names, main's TYPE of a program that was loaded -/
theorem PEx_ld {P N nb : Nat} {K L W ar : Int → Int} {n m : Int} {z0 z u : zS} {s s' sA t : yS} {gg : Int × Int} (g1 : TXT z0 P N z) (hN4 : N ≤ 4000) (hA : Agr N (z.2 (P + 2)) (s.2.1 214)) (hK : K = KI (z.2 (P + 4))) (hn : n = (ntk (z.2 (P + 2)) N : Int)) (hC : CAq (s.2.1 214) (4002 * (nb : Int)) (nb : Int) N sA t) (hq : Nq t s') (hR : RPw K L W ar (kdF K L (lsF K L)) (tnF K (lsF K L)) (lsF K L) n (4002 * (nb : Int)) (nb : Int) (m + 1) s') (hI : RIv s') (hb : nb < 2) (h29 : (s'.1 29).toInt = (nb : Int)) (h90 : ¬ (s'.1 90).toInt = 0) (h91 : ¬ (s'.1 91).toInt = 0) (hPL : PLz K L W ar n m P gg u) (k5 : (p_e K L 10 false (0, m + 1)).1 = 0) (k6 : (exE6 K L W ar (kdF K L (lsF K L)) (tnF K (lsF K L)) (lsF K L) mnS 10 (m + 1)).1 = 0) (tx : TXk P z u) : ∃ (ar : Int → Int) (nT : Int) (pw : Int → List Int) (A : List Int) (k : Int) (nb : Nat), PEx ar nT pw A k nb P u s' := by
  obtain ⟨hPR, -, k0, k, zz, ⟨hCS, hk, -, -, ⟨hkp, h10, -⟩, -⟩, -⟩ := id hPL
  have hTN : ∀ v ∈ tnF K (lsF K L), wTk (KI (z.2 (P + 4))) (ntk (z.2 (P + 2)) N : Int) v := by
    rw [← hK, ← hn]
    exact tNm_w hPR.1.2.1 hPR.1.2.2.1 hPR.1.2.2.2
  have hTn : (u.1 (P + 24) 2).toInt = 6 * ((tnF K (lsF K L)).length : Int) := hCS.1.2.2.1.1
  have hT24 : ((tnF K (lsF K L)).length : Int) ≤ 24 := by
    have := hCS.1.2.2.1.2.1
    omega
  have hRC := (RCn_of hR.1 h29).1
  rw [h29, Int.toNat_natCast] at hRC
  have hNM : NMs nb (tnF K (lsF K L)).length s' := by
    have := NMs_of hI h29 h90
    rw [hRC, Int.toNat_natCast] at this
    exact this
  have hG : TGo ar ((tnF K (lsF K L)).length : Int) 0 0 (exE6 K L W ar (kdF K L (lsF K L)) (tnF K (lsF K L)) (lsF K L) mnS 10 (m + 1)).2 := (exE_g (EWd_mn (B := 0) (b := 0) hPR (Int.le_refl _) (Int.le_refl _)) (fun A hA => by cases hA) rfl (Nat.zero_le _) (Nat.zero_le _) 10 (by decide) (Nat.le_refl _) (m + 1) k5 k6).1
  obtain ⟨A, hAe⟩ : ∃ A, A = (exE6 K L W ar (kdF K L (lsF K L)) (tnF K (lsF K L)) (lsF K L) mnS 10 (m + 1)).2 := ⟨_, rfl⟩
  obtain ⟨hR1, hR2, hR3⟩ := hR
  rw [← hAe] at hkp hG hR2 hR3
  have ha := hPR.2.2.2.1.1
  obtain ⟨Wl, c1, -⟩ := id hC.1
  refine ⟨ar, ((tnF K (lsF K L)).length : Int), (fun c => sgZ P z ((tnF K (lsF K L)).getD c.toNat 0)), A, k, nb, ⟨h29, hb⟩, ⟨ha, hT24⟩, ⟨⟨NMz_of g1 hN4 hA c1 hCS (tx 2 (by decide)) (tx 6 (by decide)) (tx 8 (by decide)) hTN, hTn⟩, ⟨⟨by have := hkp.1; omega, Or.inr ⟨hkp.1, hkp.2.1⟩⟩, hkp.2.2, hG⟩, h10, by omega⟩, ⟨NMr_of g1 hN4 hA hC hq hR1 h29 hTN hNM, ⟨?_, fun i c hc => ?_⟩⟩, fun w => absurd w h91⟩
  · rw [Int.toNat_natCast] at hR2
    exact hR2
  · have e := hR3 i c hc
    rw [show (60 * (nb : Int) + (i : Int)).toNat = 60 * nb + i by omega] at e
    rw [e]
    exact rhE_0 (cd_cl hG.2.2 c (List.mem_of_getElem? hc)).2
section ZWD
variable {h h1 : xH} {s s' : yS}
set_option maxRecDepth 20000 in
set_option maxHeartbeats 2000000 in
theorem Y_program (hL : LSr h s) : PXr 140 [.ref 0] 230 [.ref 213] h True := by
  obtain ⟨l1, l2, l3, l4, l5, l6, l7⟩ := id hL.1
  obtain ⟨-, z0, C, P, q1, q2, q3, q4, q5, q6, q7⟩ := id hL
  have hP : P = 3 ∨ P = 39 := by omega
  have hC : C = 3 ∨ C = 39 := by omega
  have hPC : (P = 3 ∧ C = 39) ∨ (P = 39 ∧ C = 3) := by omega
  obtain ⟨v, h1, cs, sl, e1, e2, e3⟩ := cp_140 l1 l2
  obtain ⟨nb, a1, a2, a3, a4, a5, a6, a7, a8, a9, a10⟩ := id l3
  obtain ⟨N, hN⟩ : ∃ N : Nat, (s.1 2).toInt = (N : Int) := ⟨_, (Int.toNat_of_nonneg a5.1).symm⟩
  have hN4 : N ≤ 4000 := by omega
  have z12 : z0.1 1 2 = s.1 2 := by
    have e := q1.1 1 2 (by decide +kernel)
    rw [l5] at e
    exact (Value.int.inj (Option.some.inj e)).symm
  have hSG : SGz P z0 := fun i hi => by
    rw [KI_n]
    rcases hP with rfl | rfl
    · have w := l7.1 21 (Or.inl rfl) i hi
      rw [q1.2 21 (wk_row (Or.inl rfl)) i] at w
      exact w
    · have w := l7.1 57 (Or.inr rfl) i hi
      rw [q1.2 57 (wk_row (Or.inr rfl)) i] at w
      exact w
  have hJ : (z0.1 (42 - P) 10).toInt ≤ 1200000000 := by
    obtain ⟨x, y, j1, j2, j3, j4⟩ := l2
    rcases hP with rfl | rfl
    · have e := q1.1 39 10 (by decide +kernel)
      rw [j3] at e
      show (z0.1 39 10).toInt ≤ _
      rw [← Value.int.inj (Option.some.inj e)]
      exact j4
    · have e := q1.1 3 10 (by decide +kernel)
      rw [j1] at e
      show (z0.1 3 10).toInt ≤ _
      rw [← Value.int.inj (Option.some.inj e)]
      exact j2
  have key := zs_140k (N := N) (s := z0) (Q := fun s8 => ∃ (z : zS) (ar : Int → Int), TXT z0 P N z ∧ GDk (KI (z.2 (P + 4))) (KI (z.2 (P + 6))) ar (ntk (z.2 (P + 2)) N) ∧ (s8.1 P 14).toInt = pgF (KI (z.2 (P + 4))) (KI (z.2 (P + 6))) (KI (z.2 (P + 10))) ar ∧ ((s8.1 P 14).toInt = 0 → LDq (KI (z.2 (P + 4))) (KI (z.2 (P + 6))) (KI (z.2 (P + 10))) ar (ntk (z.2 (P + 2)) N) P s8 ∧ TXk P z s8) ∧ KZ z0 s8) hP hJ (by rw [z12]; exact hN) hN4 hSG (fun s8 z ar g1 g2 g3 g4 g5 => ⟨z, ar, g1, g2, g3, g4, g5⟩)
  obtain ⟨v', h', cs', sl', zz, ⟨s8, ⟨z, ar, g1, g2, g3, g4, g5⟩, hv', hend⟩, y2, y3, y4⟩ := zx_140 (d := 0) (P := P) (C := C) hPC key h l1 ⟨q1, fun p hp => by
    rcases List.mem_cons.mp hp with rfl | hp
    · exact q4
    · rw [List.mem_singleton.mp hp]
      exact q3⟩
  have u := yex_u e1 y4
  simp only [Prod.mk.injEq] at u
  obtain ⟨u1, u2, -, -⟩ := u
  rw [hv'] at u1
  have ev : v = s8.1 P 14 := Value.int.inj (Option.some.inj u1)
  have hA : Agr N (z.2 (P + 2)) (s.2.1 214) := fun i hi => by
    rw [g1.1 i hi, ← q1.2 1 row_1 i]
    exact (l6 i (by omega)).symm
  have hT := Tot_par (Tot_and (R_230 l3) (s_230 (b := 1 - nb) (by omega) (by omega) a5 a3 a4)) (Nat.le_refl _) (Par_and (x_230w (s := s) g1 hN4 hA hN (by omega) g2) (x_230L hN4 hN (by omega)))
  refine pair_r (R := fun r s' => ((s'.1 2).toInt = 0 ∧ PQ (LFr (1 - nb) s.2.2) (1 - nb) s (some (.int r)) s') ∧ r.toInt = pgF (KI (z.2 (P + 4))) (KI (z.2 (P + 6))) (KI (z.2 (P + 10))) ar ∧ (pgF (KI (z.2 (P + 4))) (KI (z.2 (P + 6))) (KI (z.2 (P + 10))) ar = 0 → RPw (KI (z.2 (P + 4))) (KI (z.2 (P + 6))) (KI (z.2 (P + 10))) ar (kdF (KI (z.2 (P + 4))) (KI (z.2 (P + 6))) (lsF (KI (z.2 (P + 4))) (KI (z.2 (P + 6))))) (tnF (KI (z.2 (P + 4))) (lsF (KI (z.2 (P + 4))) (KI (z.2 (P + 6))))) (lsF (KI (z.2 (P + 4))) (KI (z.2 (P + 6)))) (ntk (z.2 (P + 2)) N) (4002 * (1 - (s.1 29).toInt)) (1 - (s.1 29).toInt) ((p_al (KI (z.2 (P + 4))) (KI (z.2 (P + 6))) 4000 0 0 (0, 0)).2 + 1) s') ∧ (∃ sA t : yS, CAq (s.2.1 214) (4002 * (1 - (s.1 29).toInt)) (1 - (s.1 29).toInt) N sA t ∧ Nq t s') ∧ RIv s') hL.1 e1 e2 e3 (by rw [u2]; exact EX_c l7 y3.1) (Tot.imp hT (fun w s' q => ?_)) (by decide) (fun r' s' q => ⟨(z32.mp q.1.1).symm, fun j hj => by have := q.1.1; omega, fun _ => Int32.toInt_inj.mp (by rw [ev, g3, q.2.1])⟩) (fun r' s' q _ => ?_)
  · obtain ⟨⟨⟨⟨r', rfl⟩, p2, p3⟩, p4⟩, ⟨r'', p5, p6, p7⟩, p8⟩ := q
    cases p5
    exact ⟨r', rfl, ⟨⟨p2, p4⟩, p6, p7, p8, p3⟩, p3⟩
  obtain ⟨K, hK⟩ : ∃ K, K = KI (z.2 (P + 4)) := ⟨_, rfl⟩
  obtain ⟨L, hLL⟩ : ∃ L, L = KI (z.2 (P + 6)) := ⟨_, rfl⟩
  obtain ⟨W, hW⟩ : ∃ W, W = KI (z.2 (P + 10)) := ⟨_, rfl⟩
  obtain ⟨n, hn⟩ : ∃ n : Int, n = (ntk (z.2 (P + 2)) N : Int) := ⟨_, rfl⟩
  rw [← hK, ← hLL, ← hW] at g3
  rw [← hK, ← hLL, ← hn] at g2
  rw [← hK, ← hLL, ← hW, ← hn] at g4 q
  rw [u2]
  obtain ⟨⟨p1, w1, w2, w3, w4, w5, w6, w7, w8, w9⟩, p2, p3, ⟨sA, tA, pC, pN⟩, hRI⟩ := q
  have er : r' = s'.1 8 := Value.int.inj (Option.some.inj w1)
  have e8 : (s'.1 8).toInt = (s8.1 P 14).toInt := by rw [← er, p2, g3]
  rcases hend with ⟨c1, c2, c3, c4⟩ | ⟨c1, c2, c3, c4⟩
  · have hf : ¬ (s'.1 8).toInt = 0 := fun w => c1 (z32.mp (by rw [← e8]; exact w))
    rcases w9 with ⟨-, hk, h75⟩ | ⟨f0, -⟩
    · rw [c2] at y2 y3
      refine ⟨s8, C, P, y2, q2, c3, c4, LP_k (KZ_o g5) ⟨hk 29 (by decide), hk 90 (by decide), hk 92 (by decide), hk 93 (by decide), hk 94 (by decide), hk 95 (by decide)⟩ (fun _ g => RCn_k l3 (hk 29 (by decide)) (fun nb' hn' hb' => bk1 (b' := 1 - nb) hn' (by clear a9; omega) (by clear a9; omega) w2) g) q5 (fun w => ?_), LPe_k hC (g5 105 13 (by decide)) (OZ_v y3.2 (by rcases q2 with ⟨rfl, rfl⟩ | ⟨rfl, rfl⟩ <;> decide +kernel)) ⟨⟨⟨hk 29 (by decide), hk 90 (by decide), hk 91 (by decide), hk 103 (by decide)⟩, fun nb' hn' hb' => RF_k (b' := 1 - nb) hn' (by clear a9; omega) (by clear a9; omega) w2 w7⟩, hk 120 (by decide), BK_284 w2⟩ q6 (fun _ => PZ_v hC y3.2 (by rcases q2 with ⟨rfl, rfl⟩ | ⟨rfl, rfl⟩ <;> decide +kernel) (by rcases q2 with ⟨rfl, rfl⟩ | ⟨rfl, rfl⟩ <;> decide +kernel) (by rcases q2 with ⟨rfl, rfl⟩ | ⟨rfl, rfl⟩ <;> decide +kernel)), MKl_k (g5 197 8 (by decide)) (g5 197 9 (by decide)) (MZ_v y3.2 (by rcases q2 with ⟨rfl, rfl⟩ | ⟨rfl, rfl⟩ <;> decide +kernel)) (hk 90 (by decide)) ⟨⟨hk 109 (by decide), hk 110 (by decide), hk 112 (by decide)⟩, BK_279 w2⟩ q7⟩
      obtain ⟨K', L', W', ar', n', m', G1, G2⟩ := q5.2 w
      refine ⟨K', L', W', ar', n', m', PL_n hC (fvq_of hC y3.2) (by rcases q2 with ⟨rfl, rfl⟩ | ⟨rfl, rfl⟩ <;> decide +kernel) (by rcases q2 with ⟨rfl, rfl⟩ | ⟨rfl, rfl⟩ <;> decide +kernel) ⟨rfl, rfl⟩ G1, RL_k G1.1 l3 (hk 29 (by decide)) (fun nb' hn' hb' _ => ?_) (fun nb' hn' hb' => bk1 (b' := 1 - nb) hn' (by clear a9; omega) (by clear a9; omega) w2) G2⟩
      obtain rfl : nb' = nb := by omega
      exact RFb_k (b' := 1 - nb') hn' (by omega) (by omega) w2 (Int32.toInt_inj.mp (by rw [h75, a2, (a9 w).2.1])) (RW_bp w5)
    · exact absurd f0 hf
  · have h8 : (s8.1 P 14).toInt = 0 := by rw [c1]; decide
    have hF : pgF K L W ar = 0 := by rw [← g3]; exact h8
    rcases w9 with ⟨f0, -⟩ | ⟨-, hk, h29, h75, ⟨b90, b91, b92, b93, b95, b109, b110⟩, gp, h65, h26⟩
    · exact absurd (e8.trans h8) f0
    · rw [c2] at y2 y3
      obtain ⟨m, hm, he, hPL⟩ := LD_pl hP (g4 h8).1
      have hSw := p3 hF
      have eb : 1 - (s.1 29).toInt = ((1 - nb : Nat) : Int) := by omega
      rw [eb, ← hm] at hSw
      rw [eb] at pC
      have hS := hSw.1
      have hpg : (p_pg K L (0, 0)).1 = 0 := by
        unfold pgF at hF
        exact ffs_0.mp hF _ List.mem_cons_self
      obtain ⟨-, -, -, k4, k5, k6⟩ := g2 hpg
      rw [← hm] at k5 k6
      have F : ∀ c q, (ldS s8).1 c q = if c = 197 ∧ q = 9 then 0 else if c = 197 ∧ q = 8 then 0 else if c = 105 ∧ q = 13 then 5 else if c = 105 ∧ q = 11 then 0 else if c = 105 ∧ q = 10 then 0 else if c = 0 ∧ q = 11 then 1 else s8.1 c q := fun c q => rfl
      have F12 : (ldS s8).1 0 12 = s8.1 0 12 := by rw [F, if_neg (by decide), if_neg (by decide), if_neg (by decide), if_neg (by decide), if_neg (by decide), if_neg (by decide)]
      have F11 : (ldS s8).1 0 11 = 1 := by rw [F, if_neg (by decide), if_neg (by decide), if_neg (by decide), if_neg (by decide), if_neg (by decide), if_pos (by decide)]
      have R11 : (ldS s8).1 105 11 = 0 := by rw [F, if_neg (by decide), if_neg (by decide), if_neg (by decide), if_pos (by decide)]
      have R10 : (ldS s8).1 105 10 = 0 := by rw [F, if_neg (by decide), if_neg (by decide), if_neg (by decide), if_neg (by decide), if_pos (by decide)]
      have R13 : (ldS s8).1 105 13 = 5 := by rw [F, if_neg (by decide), if_neg (by decide), if_pos (by decide)]
      have eg : gz (ldS s8) = (1, (s8.1 0 12).toInt) := by
        unfold gz
        rw [F11, F12]
        rfl
      have heF := he
      unfold eFs at heF
      refine ⟨ldS s8, P, C, y2, hPC, c3, c4, ⟨⟨?_, ?_, ⟨?_, ?_, ?_⟩, fun w => by rw [b90] at w; exact absurd w (by decide)⟩, fun _ => ⟨K, L, W, ar, n, m, by rw [eg]; exact hPL, ⟨?_, RCn_of hS h29⟩, FO_of hPL.1 he, k5, ffs_0.mp heF _ (List.mem_append_right _ (List.mem_singleton.mpr rfl)), ?_, ?_⟩⟩, ⟨?_, ?_, fun w => ?_, fun _ => ?_⟩, Or.inl ⟨⟨by rw [F, if_neg (by decide), if_pos ⟨rfl, rfl⟩]; decide, by rw [b110]; decide⟩, by rw [F, if_pos ⟨rfl, rfl⟩]; decide, by rw [b109]; decide⟩⟩
      · rw [F12, g5 0 12 (by decide), q5.1.1, hk 94 (by decide)]
      · rw [F11, b90]
      · rw [R11, b93, R10, b95]
        exact ⟨rfl, rfl⟩
      · rw [R13]
        exact fun w => absurd w (by decide)
      · exact fun _ => b92
      · rw [h29]
        exact RLd_of hPL.1 ⟨by omega, by omega⟩ hS (by omega) (by omega) h75
      · have := dcC_le _ _ _ hPL.1.1.2.1
        omega
      · rw [(pe_g 10 (by decide) false (m + 1) k5).2.2]
        exact k6
      · obtain ⟨l, o1, o2⟩ := q6.1
        exact ⟨l, OUz_k (OZ_v y3.2 (by rcases q2 with ⟨rfl, rfl⟩ | ⟨rfl, rfl⟩ <;> decide +kernel)) o1, OUr_k ⟨hk 120 (by decide), BK_284 w2⟩ o2⟩
      · rw [R13, b91]
        decide
      · rw [b90] at w
        exact absurd w (by decide)
      · exact PEx_ld (m := m) g1 hN4 hA hK hn pC pN hSw hRI (by omega) h29 (by rw [b90]; decide) (by rw [b91]; decide) hPL k5 (ffs_0.mp heF _ (List.mem_append_right _ (List.mem_singleton.mpr rfl))) (g4 h8).2
end ZWD
