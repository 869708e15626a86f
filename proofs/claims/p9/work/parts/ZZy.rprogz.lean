/-! ===== the reference: program answers what the class answers ===== -/
/-- the declarations of a text -/
def lsF (K L : Int → Int) : List Int := l_al K L 4000 0 0 (0, 0)
section ZZY
variable {K L W ar kd : Int → Int} {n B b x y m F : Int} {TN Ls : List Int} {d P N : Nat} {s s' u : yS} {s0 z : zS}
set_option maxHeartbeats 8000000 in
theorem x_230 (hX : TXT s0 P N z) (hN : N ≤ 4000) (hA : Agr N (z.2 (P + 2)) (s.2.1 214)) (h2 : (s.1 2).toInt = (N : Int)) (h29 : (s.1 29).toInt = 0 ∨ (s.1 29).toInt = 1) (hG : GDk (KI (z.2 (P + 4))) (KI (z.2 (P + 6))) ar (ntk (z.2 (P + 2)) N)) : Par d 230 [.ref 213] s (fun v s' => pFin (pgF (KI (z.2 (P + 4))) (KI (z.2 (P + 6))) (KI (z.2 (P + 10))) ar) (fun u => RPs (KI (z.2 (P + 4))) (KI (z.2 (P + 6))) (KI (z.2 (P + 10))) ar (kdF (KI (z.2 (P + 4))) (KI (z.2 (P + 6))) (lsF (KI (z.2 (P + 4))) (KI (z.2 (P + 6))))) (tnF (KI (z.2 (P + 4))) (lsF (KI (z.2 (P + 4))) (KI (z.2 (P + 6))))) (lsF (KI (z.2 (P + 4))) (KI (z.2 (P + 6)))) (ntk (z.2 (P + 2)) N) (4002 * (1 - (s.1 29).toInt)) (1 - (s.1 29).toInt) ((p_al (KI (z.2 (P + 4))) (KI (z.2 (P + 6))) 4000 0 0 (0, 0)).2 + 1) u) v s') := by
  cases d with
  | zero => exact Par_0
  | succ d =>
    refine pb_230 ?_
    unfold ub_230_0
    intro s1 hs1 _ x2 hx2 s3 hs3 s4 hs4
    obtain ⟨b, hb⟩ : ∃ b, b = x2.toInt := ⟨_, rfl⟩
    have e29 : (s1.1 29).toInt = (s.1 29).toInt := by rw [hs1, sf_1, if_neg (by decide)]
    have hb01 : 0 ≤ b ∧ b ≤ 1 := by
      rw [hb, hx2, e29]
      omega
    have k9 : (s4.1 9).toInt = b := by rw [hs4, sf_1, if_pos rfl, hs3, sf_1, if_pos rfl, hb]
    have k30 : s4.1 30 = x2 := by rw [hs4, sf_1, if_neg (by decide), hs3, sf_1, if_pos rfl]
    have k2 : (s4.1 2).toInt = (N : Int) := by
      rw [hs4, sf_1, if_neg (by decide), hs3, sf_1, if_neg (by decide), hs1, sf_1, if_neg (by decide)]
      exact h2
    have r4 : s4.2 = s.2 := by rw [hs4, sf_2, hs3, sf_2, hs1, sf_2]
    refine Par.imp (x_161 k9 hb01.1) ?_
    rintro v6 s5 ⟨rfl, w5, f5⟩
    refine ⟨rfl, ?_⟩
    have r5 : s5.2.1 214 = s.2.1 214 := funext fun i => by rw [f5.2 214 i (by omega), r4]
    refine Par.imp (x_162 (sg := s.2.1 214) (B := 4002 * b) (n := N) r5 (by rw [f5.1]; exact k9) hb01.1 rfl (by rw [f5.1]; exact k2) hN w5) ?_
    rintro v8 s7 ⟨rfl, hC⟩
    refine ⟨rfl, ?_⟩
    obtain ⟨B, hB⟩ : ∃ B, B = 4002 * b := ⟨_, rfl⟩
    rw [← hB] at hC
    have hB0 : 0 ≤ B := by omega
    obtain ⟨hK7, hXp⟩ := RTk_of hX hN hC hB0 hA
    have hQ7 := WEQ_of hX hC hB0 hA
    obtain ⟨-, -, -, c7, c8, -, cF⟩ := hC
    obtain ⟨n, hnn⟩ : ∃ n : Int, n = (ntk (z.2 (P + 2)) N : Int) := ⟨_, rfl⟩
    obtain ⟨K, hK⟩ : ∃ K, K = KI (z.2 (P + 4)) := ⟨_, rfl⟩
    obtain ⟨L, hL⟩ : ∃ L, L = KI (z.2 (P + 6)) := ⟨_, rfl⟩
    obtain ⟨W, hW⟩ : ∃ W, W = KI (z.2 (P + 10)) := ⟨_, rfl⟩
    rw [← hK, ← hL, ← hnn] at hK7 hXp hG
    rw [← hK, ← hW, ← hnn] at hQ7
    rw [← hK, ← hL, ← hW, ← hnn]
    have eb : 1 - (s.1 29).toInt = b := by rw [hb, hx2, e29]
    rw [eb, ← hB]
    obtain ⟨Ψ, hΨ⟩ : ∃ Ψ : yS → Prop, Ψ = (fun u => RPs K L W ar (kdF K L (lsF K L)) (tnF K (lsF K L)) (lsF K L) n B b ((p_al K L 4000 0 0 (0, 0)).2 + 1) u) := ⟨_, rfl⟩
    rw [← hΨ]
    obtain ⟨F, hF⟩ : ∃ F, F = pgF K L W ar := ⟨_, rfl⟩
    rw [← hF]
    have f30 : s7.1 30 = x2 := by rw [cF.1 30 (by decide) (by decide) (by decide) (by decide), f5.1, k30]
    intro _ x9 hx9 s10 hs10 _ s11 hs11 _ s12 hs12 _ x13 hx13 s14 hs14 _ s15 hs15
    have t10 : (s10.1 30).toInt = b := by rw [hs10, sf_1, if_neg (by decide), f30]; exact hb.symm
    have t11 : (s11.1 30).toInt = b := by rw [hs11]; exact t10
    have t12 : (s12.1 30).toInt = b := by rw [hs12]; exact t11
    have t14 : (s14.1 30).toInt = b := by rw [hs14, sf_1, if_neg (by decide)]; exact t12
    have t15 : (s15.1 30).toInt = b := by rw [hs15]; exact t14
    have g15 : ∀ k, ¬ k = 26 → ¬ k = 42 → s15.1 k = s7.1 k := fun k q1 q2 => by
      rw [hs15]
      show s14.1 k = _
      rw [hs14, sf_1, if_neg q2, hs12]
      show s11.1 k = _
      rw [hs11]
      show s10.1 k = _
      rw [hs10, sf_1, if_neg q1]
    have r15 : ∀ p, ¬ p = 233 → ¬ p = 252 → ¬ p = 263 → s15.2.1 p = s7.2.1 p := fun p q1 q2 q3 => funext fun i => by
      rw [hs15, sa_21, if_neg (by omega), hs14, sf_2, hs12, sa_21, if_neg (by omega), hs11, sa_21, if_neg (by omega), hs10, sf_2]
    have e33 : (s15.2.1 233 b.toNat).toInt = 0 := by
      rw [hs15, sa_21, if_neg (by omega), hs14, sf_2, hs12, sa_21, if_neg (by omega), hs11, sa_21, if_pos ⟨rfl, by rw [t10]⟩]
      decide
    have e52 : (s15.2.1 252 b.toNat).toInt = 0 := by
      rw [hs15, sa_21, if_neg (by omega), hs14, sf_2, hs12, sa_21, if_pos ⟨rfl, by rw [t11]⟩]
      decide
    have e63 : (s15.2.1 263 b.toNat).toInt = 0 := by
      rw [hs15, sa_21, if_pos ⟨rfl, by rw [t14]⟩]
      decide
    have e42 : (s15.1 42).toInt = 204 * b := by
      rw [hs15]
      show (s14.1 42).toInt = _
      rw [hs14, sf_1, if_pos rfl, hx13, t12]
    have hK15 : RTk K L B n s15 := RTk_eq (r15 215 (by decide) (by decide) (by decide)) (r15 216 (by decide) (by decide) (by decide)) (r15 217 (by decide) (by decide) (by decide)) hK7
    have hn0 := hXp.1
    have hq15 : RQr B n (0, 0) s15 := ⟨by rw [g15 8 (by decide) (by decide)]; exact c8, fun _ => ⟨by rw [g15 7 (by decide) (by decide), c7]; exact (Int.add_zero B).symm, Int.le_refl _, hn0.1⟩⟩
    refine Par.imp (x_179 hXp hK15 hq15 t15 hb01.1 e33 e52 e63 e42 (by omega)) ?_
    rintro v17 s16 ⟨rfl, q1, q2, q3, q4⟩
    refine ⟨rfl, ?_⟩
    intro s18 hs18 _ x19 hx19 _ x20 hx20 s21 hs21 _ x22 _ s23 hs23
    obtain ⟨x, hx⟩ : ∃ x, x = (s15.1 26).toInt := ⟨_, rfl⟩
    obtain ⟨y, hy⟩ : ∃ y, y = (s16.1 26).toInt := ⟨_, rfl⟩
    rw [← hx, ← hy] at q4
    have t16 : (s16.1 30).toInt = b := by rw [q3.1 30 (by decide) (by decide) (by decide) (by decide) (by decide) (by decide)]; exact t15
    have r217 : s16.2.1 217 = s7.2.1 217 := funext fun i => by
      rw [q3.2.2.1 217 i (by decide) (Or.inl (by unfold nRe nRw; omega)) (by unfold WAl; omega), r15 217 (by decide) (by decide) (by decide)]
    have r23 : s23.2 = s16.2 := by rw [hs23, sf_2, hs21, sf_2, hs18, sf_2]
    have g23 : ∀ k, ¬ k = 65 → ¬ k = 75 → ¬ k = 85 → s23.1 k = s16.1 k := fun k z1 z2 z3 => by rw [hs23, sf_1, if_neg z3, hs21, sf_1, if_neg z1, hs18, sf_1, if_neg z2]
    have k75 : (s23.1 75).toInt = b := by
      rw [hs23, sf_1, if_neg (by decide), hs21, sf_1, if_neg (by decide), hs18, sf_1, if_pos rfl]
      exact t16
    have t18 : (s18.1 30).toInt = b := by rw [hs18, sf_1, if_neg (by decide)]; exact t16
    have k65 : (s23.1 65).toInt = 10 + 4100 * b := by rw [hs23, sf_1, if_neg (by decide), hs21, sf_1, if_pos rfl, hx20, hx19, t18]
    unfold ubl_230_69
    refine ⟨fun c1 u => ∃ k : Nat, k ≤ 6 ∧ c1.toInt = (k : Int) ∧ u.1 = s23.1 ∧ (∀ p, ¬ p = 264 → u.2.1 p = s23.2.1 p) ∧ ∀ j : Nat, j < k → (u.2.1 264 j).toInt = 40000 + 8 * (j : Int), ⟨0, by decide, by decide, rfl, fun _ _ => rfl, fun j hj => by omega⟩, ?_⟩
    rintro c1 u ⟨k, i1, i2, i3, i5, i6⟩
    unfold ub_230_69
    refine ⟨fun w s1' hs1' s2' hs2' => ?_, fun w _ x3 hx3 _ x4 hx4 _ s5' hs5' _ x6 hx6 => ⟨k + 1, by omega, by omega, ?_, fun p hp => funext fun j => ?_, fun j hj => ?_⟩⟩
    · have k6 : k = 6 := by omega
      subst k6
      have gc : ∀ k, ¬ k = 64 → ¬ k = 70 → s2'.1 k = s23.1 k := fun k z1 z2 => by rw [hs2', sf_1, if_neg z2, hs1', sf_1, if_neg z1, i3]
      have rc2 : s2'.2 = u.2 := by rw [hs2', sf_2, hs1', sf_2]
      have rw2 : ∀ p, ¬ p = 231 → ¬ p = 232 → ¬ p = 264 → ¬ p = 261 → s2'.2.1 p = s16.2.1 p := fun p _ _ z _ => by rw [rc2, i5 p z, r23]
      have c8' : (s2'.1 8).toInt = (p_pg K L (0, 0)).1 := by
        rw [gc 8 (by decide) (by decide), g23 8 (by decide) (by decide) (by decide)]
        exact q2
      by_cases hf : (p_pg K L (0, 0)).1 = 0
      rotate_left
      · have eF : F = (p_pg K L (0, 0)).1 := by
          rw [hF]
          unfold pgF
          rw [ffs_1 hf]
        unfold ubl_230_91
        refine ⟨fun _ u => u = s2', rfl, ?_⟩
        intro c1 w hw
        subst hw
        exact u_91x (by rw [c8', eF]) (by rw [c8']; exact hf) (fun _ => rfl)
      · obtain ⟨o1, o2, o3, o4, o5, o6⟩ := hG hf
        obtain ⟨m, hm⟩ : ∃ m, m = (p_al K L 4000 0 0 (0, 0)).2 := ⟨_, rfl⟩
        obtain ⟨Ls, hLs⟩ : ∃ Ls, Ls = l_al K L 4000 0 0 (0, 0) := ⟨_, rfl⟩
        obtain ⟨y1, y2, y3, y4, -, y6, y7, y8⟩ := q4 hf
        have eF : F = ffs (lvF K L W ar Ls (m + 1)) := by
          rw [hF]
          unfold pgF
          rw [ffs_2 hf, hLs, hm]
        rw [← hLs] at o2 o3 y1 y2 y3 y4 y6 y7
        rw [← hm] at o5 o6 y8
        have hDc : dcC K L 0 m Ls := by
          rw [hm, hLs]
          exact dcC_al 4000 0 0 0 o4
        have hlt : m + 1 < (p_e K L 10 false (0, m + 1)).2 := (pe_fw (K := K) (L := L) 10 false (0, m + 1) o5).2
        have hm0 : 0 ≤ m := by
          have key : ∀ (l : List Int) (a c : Int), dcC K L a c l → a ≤ c := fun l => by
            induction l with
            | nil => exact fun a c q => q
            | cons v l ih =>
              intro a c q
              have e1 := dcC_at (v :: l) 0 v a c q rfl
              by_cases c6 : K v = 6
              · have e2 := (e1.2.1 c6)
                have e4 := fn_fw e2.1
                have e5 := srtQ_le (srt_fn (h := 0) e4.1)
                have e6 := e4.2.2.2.2
                have e7 := e4.2.2.2.1
                omega
              · have e2 := (e1.2.2 c6)
                have e3 := e1.1
                have e5 := srtQ_le (srt_ty (h := 0) e2.1)
                omega
          exact key Ls 0 m hDc
        have hw16 : ALr K L B s16 b (204 * b) x y Ls := y1
        have hw : RW0 K L Ls B b x y m s2' := by
          refine ⟨ALr_W rw2 hw16, ?_, ?_, ErA_W rw2 y8, ?_, ?_, ?_⟩
          · rw [rw2 263 (by decide) (by decide) (by decide) (by decide)]
            exact y4
          · rw [rw2 252 (by decide) (by decide) (by decide) (by decide)]
            exact y3
          · rw [gc 30 (by decide) (by decide), g23 30 (by decide) (by decide) (by decide)]
            exact t16
          · rw [hs2', sf_1, if_neg (by decide), hs1', sf_1, if_pos rfl]
            decide
          · rw [hs2', sf_1, if_pos rfl]
            decide
        have hQ2 : WEQ K W B n s2' := by
          unfold WEQ at hQ7 ⊢
          rw [rw2 217 (by decide) (by decide) (by decide) (by decide), r217]
          exact hQ7
        have hK2 : RTk K L B n s2' := RTk_eq (rw2 215 (by decide) (by decide) (by decide) (by decide)) (rw2 216 (by decide) (by decide) (by decide) (by decide)) (rw2 217 (by decide) (by decide) (by decide) (by decide)) q1
        have hR0 : RBh K L W ar (kdF K L Ls) n B b s2' (tnF K Ls) := RBh_of (by rw [gc 75 (by decide) (by decide)]; exact k75) hQ2 hK2 hw.1 (by rw [rw2 233 (by decide) (by decide) (by decide) (by decide)]; exact y2) o2
        have eL : lsF K L = Ls := hLs.symm
        rw [eL, ← hm] at hΨ
        rw [hΨ]
        refine u_91 ⟨?_, ?_⟩ hB hXp hb01.1 hb01.2 hB0 hm0 (by omega) hDc o3 o1 o2 hw hR0 (by rw [c8']; exact hf) (by rw [gc 65 (by decide) (by decide)]; exact k65) ?_ o5 o6 eF
        · have e26 : (s15.1 26).toInt = x9.toInt := by
            rw [hs15]
            show (s14.1 26).toInt = _
            rw [hs14, sf_1, if_neg (by decide), hs12]
            show (s11.1 26).toInt = _
            rw [hs11]
            show (s10.1 26).toInt = _
            rw [hs10, sf_1, if_pos rfl]
          rw [hx, e26, hx9, f30, hB, hb]
          exact Int.le_refl _
        · rw [gc 26 (by decide) (by decide), g23 26 (by decide) (by decide) (by decide), hy]
          exact Int.le_refl _
        intro i c hc
        have hi : i < 6 := by
          have := (List.getElem?_eq_some_iff.mp hc).1
          simpa using this
        rw [Int.zero_add, KI_n, rc2, i6 i hi]
        rcases (by omega : i = 0 ∨ i = 1 ∨ i = 2 ∨ i = 3 ∨ i = 4 ∨ i = 5) with rfl | rfl | rfl | rfl | rfl | rfl
        · cases hc; rfl
        · cases hc; rfl
        · cases hc; rfl
        · cases hc; rfl
        · cases hc; rfl
        · cases hc; rfl
    · rw [hs5']
      exact i3
    · rw [hs5', sa_21, if_neg (by omega), i5 p hp]
    · rw [hs5', sa_21]
      by_cases e : j = k
      · rw [if_pos ⟨rfl, by omega⟩]
        omega
      · rw [if_neg (by omega)]
        exact i6 j (by omega)
end ZZY
