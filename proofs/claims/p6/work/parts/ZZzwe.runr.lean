/-! ===== run: class and reference ===== -/
section ZWE
variable {h : xH} {s : yS}
/-- neither runs -/
theorem zn_142 {P : Nat} {z : zS} {a1 : Int32} (hP : P = 3 ∨ P = 39) (hg : ¬ (¬ (z.1 0 11).toInt = 0 ∧ 1 ≤ a1.toInt ∧ a1.toInt ≤ 5000)) : Zu 9 [(75, 0), (75, 1), (75, 2), (105, 5)] [(0, 9, P)] [] 142 [.ref 0, .int a1] z (fun v s' => v = some (.int (-1)) ∧ s' = z) := by
  refine zc_142 (d := 0) hP ?_
  unfold v_142_0 v_142_9
  exact ⟨fun _ => ⟨rfl, rfl⟩, fun w => ⟨fun _ => ⟨rfl, rfl⟩, fun w1 => ⟨fun w2 => absurd ⟨w, by omega, w2⟩ hg, fun _ => ⟨rfl, rfl⟩⟩⟩⟩
theorem rn_247 {a1 : Int32} (hg : ¬ (¬ (s.1 90).toInt = 0 ∧ 1 ≤ a1.toInt ∧ a1.toInt ≤ 5000)) : Tot 1514 247 [.ref 213, .int a1] s (fun v s' => v = some (.int (-1)) ∧ s' = sf s 0 0) := by
  refine t_247 (d := 1513) ?_
  intro s1 e1
  subst e1
  exact ⟨fun _ => ⟨rfl, rfl⟩, fun w => ⟨fun _ => ⟨rfl, rfl⟩, fun w1 => ⟨fun w2 => absurd ⟨w, by omega, w2⟩ hg, fun _ => ⟨rfl, rfl⟩⟩⟩⟩
set_option maxRecDepth 20000 in
set_option maxHeartbeats 2000000 in
theorem Y_run (hL : LSr h s) (a1 : Int32) : PXr 142 [.ref 0, .int a1] 247 [.ref 213, .int a1] h True := by
  obtain ⟨l1, l2, l3, l4, l5, l6, l7⟩ := id hL.1
  obtain ⟨-, z, C, S, q1, q2, q3, q4, q5⟩ := id hL
  have hC : C = 3 ∨ C = 39 := by omega
  obtain ⟨v, h1, cs, sl, e, e2, e3⟩ := K_142 h [.ref 0, .int a1] l1 ⟨⟨0, rfl, cmem_ok rfl⟩, vK_int a1, trivial⟩
  obtain ⟨u, rfl, x, rfl, -⟩ := (show rOK (some kint) v from e2)
  have e' := yex_mono (show 13 ≤ 1514 by decide) _ _ _ _ e
  have hrc : rc h1 1 = rc h 1 := e3.2.1.1.2.2.resolve_left (wmem_no rfl)
  have f9 : fld h1 0 9 = some (.ref C) := (e3.2.1.2 0 9 (by decide) (wmem_no (by rw [show wc 0 = 11 by decide +kernel]; rfl))).trans q3
  have f10 : fld h1 0 10 = some (.ref S) := (e3.2.1.2 0 10 (by decide) (wmem_no (by rw [show wc 0 = 11 by decide +kernel]; rfl))).trans q4
  have hEX : EXh h1 := EX_of l1 l7 (by decide) (cw_of q3) (zw_142 (d := 0) hC (SN_st l7)) _ _ _ _ e'
  have fin : ∀ (z1 : zS) (s0 : yS), zI h1 z1 → LPz C z1 s0 → s0.1 2 = s.1 2 → s0.2.1 214 = s.2.1 214 → Tot 1514 247 [.ref 213, .int a1] s (fun v s' => ∃ r : Int32, v = some (.int r) ∧ (x = r ∧ s' = s0) ∧ RIv s') → PXr 142 [.ref 0, .int a1] 247 [.ref 213, .int a1] h True := fun z1 s0 hz1 hp t2 t214 hT => by
    refine pair_r (R := fun r s' => x = r ∧ s' = s0) hL.1 e' (cp_of e3 (JJ_fr e3 rfl l2)) ((z_fr e3 rfl).trans l5) hEX hT (Nat.le_refl _) (fun r s' g => ⟨by rw [g.2, t2], fun j hj => ?_, fun _ => g.1⟩) (fun r s' g _ => by rw [g.2]; exact ⟨z1, C, S, hz1, q2, f9, f10, hp⟩)
    rw [g.2] at hj ⊢
    rw [rv_same hrc j, t214]
    exact l6 j (by rw [← t2]; exact hj)
  by_cases hgo : ¬ (s.1 90).toInt = 0 ∧ 1 ≤ a1.toInt ∧ a1.toInt ≤ 5000
  rotate_left
  · have hgz : ¬ (¬ (z.1 0 11).toInt = 0 ∧ 1 ≤ a1.toInt ∧ a1.toInt ≤ 5000) := fun w => hgo ⟨fun w0 => w.1 (q5.1.2.1.mpr w0), w.2⟩
    obtain ⟨z1, ⟨r1, r2⟩, p3, -, -⟩ := cz_of l1 q1 (cw_of q3) e' (zn_142 hC hgz)
    rw [r2] at p3
    refine fin z (sf s 0 0) p3 (LP_k KZ_rf RKq_0.1 (fun _ w => w) q5 (fun w => ?_)) rfl rfl (Tot.imp (rn_247 hgo) (fun v s' g => ⟨-1, g.1, ⟨Value.int.inj (Option.some.inj r1), g.2⟩, by rw [g.2]; exact RI_0 l3⟩))
    obtain ⟨K, L, W, ar, n, m, G1, G2⟩ := q5.2 w
    exact ⟨K, L, W, ar, n, m, G1, RL_k G1.1 l3 rfl (fun nb w1 _ w3 => RKq_0.2.2 nb w1 w3) (fun nb w1 _ => RKq_0.2.1 nb w1) G2⟩
  obtain ⟨h90, hn⟩ := hgo
  obtain ⟨K, L, W, ar, nI, m, G1, G2⟩ := q5.2 h90
  obtain ⟨nb, b1, b2, b3, b4, b5, b6, b7, b8, b9, b10⟩ := id l3
  obtain ⟨d1, d2, d3⟩ := b9 h90
  obtain ⟨own, n', W', N', T, F, H, S0, G, S', O, k1, k2, k3, k4, k5, k6, k7, k8, k9⟩ := id d1
  obtain ⟨⟨rl, -⟩, hFO, p1, p2, p3, p4⟩ := id G2
  rw [b2] at rl
  obtain ⟨A, A0, A1, r1, r2, r3, r4, xm, ym, r5, r6⟩ := rl
  obtain ⟨L0, hL0⟩ : ∃ L0 : Int, L0 = min a1.toInt (60000 - (s.1 94).toInt) := ⟨_, rfl⟩
  have M := m_247 (a1 := a1) (A0 := A0) (A1 := A1) (L0 := L0) G1.1 hFO (by omega) ⟨p1, p2, p3, p4⟩ ⟨⟨A, by omega, r2⟩, fun i t w1 w2 => by
    obtain ⟨x', y', v1, v2⟩ := r4 i t w1 w2
    exact ⟨x', y', by omega, v2⟩, xm, ym, r6⟩ k1 k2 k3 k4 b2 b6 (by omega) (by omega) h90 hn hL0
  obtain ⟨v0, s0, ⟨m1, m2, m3⟩, o1, o2⟩ := Tot_and M (Tot_and (s_247 (a1 := a1) k1 k2 k3 k4 b2 b6 (by omega) (by omega)) (R_247 (a1 := a1) h90 l3))
  obtain ⟨r, Y, N, rfl, y1, y2, y3, y4, y5, ⟨⟨y6, y6'⟩, y7, y8, y9⟩, y10⟩ := m1
  have hX : RX r7K 0 0 0 13000 s s0 := by
    obtain ⟨r', -, hx | ⟨-, -, hx, -⟩⟩ := m2
    · rw [hx]
      exact ⟨fun k hk => by rw [sf_1, if_neg (fun w => hk (by rw [w]; decide))], fun _ _ _ _ _ _ _ _ => rfl, rfl, b3, b4⟩
    · exact hx
  obtain ⟨⟨x29, x75, x90⟩, xC, xF⟩ := RKq_r hX
  obtain ⟨c1, c2, k0, kk, zz, PG⟩ := id G1
  have g12 : (gz z).2 = (s.1 94).toInt := by
    show (z.1 0 12).toInt = _
    rw [q5.1.1]
  obtain ⟨z1, ⟨rr, hrr, hy, HL⟩, w3, -, -⟩ := cz_of l1 q1 (cw_of q3) e' (zs_142 (d := 0) (a1 := a1) (L0 := L0) hC c1 c2.1 PG (fun w => h90 (q5.1.2.1.mp w)) hn (by rw [g12]; exact b6) (by rw [g12]; exact hL0) y2 y1 y4)
  obtain ⟨PG1, ⟨t13, t10, t11, -⟩, t12, -⟩ := HL
  have e11 : (z1.1 0 11).toInt = (gz z).1 := PG1.2.2.2.2.2.1
  have e12 : (z1.1 0 12).toInt = (gz z).2 + (L0 - Y.2.2.2.2.2.2.2.1) := PG1.2.2.2.2.2.2
  have eg : gz z1 = ((gz z).1, (gz z).2 + (L0 - Y.2.2.2.2.2.2.2.1)) := Prod.ext e11 e12
  have ex : x = r := Int32.toInt_inj.mp (by rw [← y3, ← hy, Value.int.inj (Option.some.inj hrr)])
  refine fin z1 s0 w3 ⟨⟨Int32.toInt_inj.mp (by rw [e12, y6, g12]), ?_, ?_, fun w => absurd (by rw [← x90]; exact w) h90⟩, fun _ => ⟨K, L, W, ar, nI, m, ⟨c1, c2, k0, kk, zz, by rw [eg]; exact PG1⟩, RL_k c1 l3 x29 (fun nb w1 _ w3 => xF nb w1 w3) (fun nb w1 _ => xC nb w1) G2⟩⟩ m3.2.1.1 m3.2.1.2 ⟨_, s0, ⟨r, rfl, ⟨ex, rfl⟩, m3.2.2⟩, o1, o2⟩
  · rw [e11, x90]
    exact q5.1.2.1
  · rw [y3] at t13
    refine ⟨⟨Int32.toInt_inj.mp (by rw [t11, y7]), Int32.toInt_inj.mp (by rw [t10, y6'])⟩, fun w => Int32.toInt_inj.mp ?_, fun w => Int32.toInt_inj.mp ?_⟩
    · rw [t13] at w
      rw [t12 (y3.trans w), y8 w]
    · rw [t13] at w
      rw [y9 w]
      decide
end ZWE
