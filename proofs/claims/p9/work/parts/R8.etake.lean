/-! ===== takeE ===== -/
section RE8
variable {d : Nat} {K L : Int → Int} {B n : Int} {s s' s'' t : yS} {σ τ : RSt} {a1 x : Int32} {c0 : Int}
/-- the points behind an E, and its end -/
theorem x_175l (ih7 : T177 K L B n d) (hP : TXp K L n) {m : Nat} (hm : m ≤ 10) {N t0 : Int} {R : RSt} {e b : Int32} (hN : 0 ≤ N) {Q : Option Value → yS → Prop} (h : Rp K L B n m τ t) (hR : p_ps K L (p_po K L (p_t K L m) (p_e K L m)) 20 τ = R) (he : N ≤ e.toInt ∧ e.toInt < (t.1 26).toInt) (hF : EFx N s t) (hT : τ.1 = 0 → ePs K L B t m (eT K L B t m) N t0 0 (t.1 26).toInt τ.2 e.toInt ∧ (t.2.1 225 e.toInt.toNat).toInt = -1) (hQ : ∀ (r : Int32) (u : yS), N ≤ r.toInt → r.toInt < (u.1 26).toInt → EFx N s u → RTk K L B n u → RQr B n R u → (u.1 27).toInt = 10 - (m : Int) - 1 → (R.1 = 0 → ∃ k, k ≤ 20 ∧ ePs K L B u m (eT K L B u m) N t0 k (u.1 26).toInt R.2 r.toInt ∧ (u.2.1 225 r.toInt.toNat).toInt = -1) → Q (some (.int r)) u) : ub_175_92 (Par d) e b t Q := by
  unfold ub_175_92 ubl_175_94
  refine ⟨fun b1 b2 b3 u => ∃ ρ : RSt, 0 ≤ b3.toInt ∧ b3.toInt ≤ 21 ∧ Rp K L B n m ρ u ∧ p_ps K L (p_po K L (p_t K L m) (p_e K L m)) (20 - b3.toInt).toNat ρ = R ∧ (b3.toInt = 21 → ¬ ρ.1 = 0) ∧ (N ≤ b1.toInt ∧ b1.toInt < (u.1 26).toInt) ∧ EFx N s u ∧ (ρ.1 = 0 → ePs K L B u m (eT K L B u m) N t0 b3.toInt.toNat (u.1 26).toInt ρ.2 b1.toInt ∧ (u.2.1 225 b1.toInt.toNat).toInt = -1), ⟨τ, by decide, by decide, h, by rw [show (20 - (0 : Int32).toInt).toNat = 20 by decide]; exact hR, fun w => absurd w (by decide), he, hF, hT⟩, ?_⟩
  rintro b1 b2 b3 u ⟨ρ, g1, g2, g3, g4, g5, g6, g7, g8⟩
  unfold ub_175_94
  refine Par.imp (x_164 g3.1 g3.2.1 (a1 := 46) (by decide)) ?_
  rintro v2 s1 ⟨rfl, x3, rfl, hr3⟩
  rw [show (46 : Int32).toInt = 46 by decide] at hr3
  refine ⟨x3, rfl, fun w => ?_, fun w => ?_⟩
  · rcases hr3 with ⟨y1, -⟩ | ⟨-, y2⟩
    · omega
    rw [pps_no y2] at g4
    intro _ x4 hx4 s5 hs5
    have e5 : s5.1 26 = s1.1 26 := by rw [hs5, sfr_1, if_neg (by decide)]
    have e52 : s5.2 = s1.2 := by rw [hs5, sfr_2]
    refine hQ b1 s5 g6.1 (by rw [e5]; exact g6.2) ?_ (RTk_eq (by rw [e52]) (by rw [e52]) (by rw [e52]) g3.1) ?_ ?_ (fun hr => ?_)
    · rw [hs5]
      exact EFx_tr (Int.le_refl _) g7 (EFx_sf (Or.inr (Or.inr (Or.inl rfl))) (by omega))
    · rw [hs5, ← g4]
      exact ⟨by rw [sfr_1, if_neg (by decide)]; exact g3.2.1.1, fun w => by rw [sfr_1, if_neg (by decide)]; exact g3.2.1.2 w⟩
    · rw [hs5, sfr_1, if_pos rfl, hx4, g3.2.2]
    · rw [← g4] at hr ⊢
      obtain ⟨z1, z2⟩ := g8 hr
      refine ⟨b3.toInt.toNat, ?_, ?_, by rw [e52]; exact z2⟩
      · have : ¬ b3.toInt = 21 := fun q => g5 q hr
        omega
      · rw [e5]
        exact ePs_eq (e' := b1.toInt) (eT_eq m) z1 ⟨fun _ _ _ _ _ => by rw [e52], fun _ _ _ _ => by rw [e52]⟩ (Or.inl rfl)
  · rcases hr3 with ⟨-, y2⟩ | ⟨y1, -⟩
    · have f0 := (tk_t y2).1
      have f1 := (tk_t y2).2
      have h21 : ¬ b3.toInt = 21 := fun q => g5 q f0
      -- one point more: u' stands there (or behind the fault)
      have nxt : ∀ (u' : yS) (ρ' : RSt), R78 s1 u' → RQr B n ρ' u' → (t_k K 46 ρ' = true ∨ ¬ ρ'.1 = 0) → (¬ ρ'.1 = 0 → b3.toInt = 20 ∧ ρ' = R) → (ρ'.1 = 0 → ρ' = ρ ∧ ¬ b3.toInt = 20) → ub_175_106 (Par d) (fun b1 b2 b3 u => ∃ ρ : RSt, 0 ≤ b3.toInt ∧ b3.toInt ≤ 21 ∧ Rp K L B n m ρ u ∧ p_ps K L (p_po K L (p_t K L m) (p_e K L m)) (20 - b3.toInt).toNat ρ = R ∧ (b3.toInt = 21 → ¬ ρ.1 = 0) ∧ (N ≤ b1.toInt ∧ b1.toInt < (u.1 26).toInt) ∧ EFx N s u ∧ (ρ.1 = 0 → ePs K L B u m (eT K L B u m) N t0 b3.toInt.toNat (u.1 26).toInt ρ.2 b1.toInt ∧ (u.2.1 225 b1.toInt.toNat).toInt = -1)) b1 b2 b3 u' Q := by
        intro u' ρ' c1 c2 c3 c4 c5
        have e26 : u'.1 26 = s1.1 26 := c1.2 26 (by decide) (by decide)
        have e2 : u'.2 = s1.2 := c1.1
        unfold ub_175_106
        intro _ x1 hx1
        refine Par.imp (ih7 m ρ' b1 u' hm c3 (Rp_78 g3 c1 c2)) ?_
        rintro v3 s2 ⟨x4, rfl, j0, j1, j2, j3, j4, j5⟩
        rw [e26] at j0 j1 j2 j3
        refine ⟨x4, rfl, p_po K L (p_t K L m) (p_e K L m) ρ', by omega, by omega, j4, ?_, fun q => ?_, ⟨by omega, by omega⟩, ?_, fun hf => ?_⟩
        · by_cases h0 : ρ'.1 = 0
          · obtain ⟨d1, d2⟩ := c5 h0
            rw [d1]
            rw [show (20 - b3.toInt).toNat = (20 - x1.toInt).toNat + 1 by omega, p_ps, if_pos y2] at g4
            exact g4
          · obtain ⟨d1, d2⟩ := c4 h0
            rw [ppo_f h0, pps_no (tk_f h0)]
            exact d2
        · by_cases h0 : ρ'.1 = 0
          · obtain ⟨d1, d2⟩ := c5 h0
            omega
          · rw [ppo_f h0]
            exact h0
        · refine EFx_tr (Int.le_refl _) g7 (EFx_tr (Int.le_refl _) (EFx_78 c1 (by omega)) ⟨j3.1, j3.2.1, fun p i w0 w => j3.2.2.1 p i w0 (by rcases w with w | w; exact Or.inl w; exact Or.inr (by omega)), by have := j3.2.2.2; omega⟩)
        · have h0 := (ppo_fw (pt_fw m) (pe_fw m) hf).1
          obtain ⟨d1, d2⟩ := c5 h0
          obtain ⟨z1, z2⟩ := j5 hf
          obtain ⟨p1, p2⟩ := g8 f0
          have hmo := ppo_mono (K := K) (L := L) (pe_fw m) (pt_mono m 11 (by omega)) (pe_mono m 11 (by omega)) hf
          refine ⟨?_, z2⟩
          rw [show x1.toInt.toNat = b3.toInt.toNat + 1 by omega]
          refine ⟨(s1.1 26).toInt, ρ.2, b1.toInt, ?_, f1, j1, ?_, ?_⟩
          · refine ePs_eq (e' := b1.toInt) (eT_eq m) p1 ⟨fun p i hp i1 i2 => ?_, fun i i1 i2 i3 => ?_⟩ ?_
            · have : (0 : Int) ≤ i := by omega
              rw [j3.2.2.1 p _ (by omega) (Or.inr (by omega)), e2]
            · have : (0 : Int) ≤ i := by omega
              rw [j3.2.2.1 225 _ (by decide) (Or.inr (by omega)), e2]
            · exact Or.inl rfl
          · rw [d1] at z1
            exact z1
          · unfold aPt
            rw [← d1, show ((0 : Int), ρ'.2) = ρ' by rw [← h0], hmo]
      refine ⟨fun w20 => ?_, fun w20 => ?_⟩
      · exact nxt s1 ρ R78_rf g3.2.1 (Or.inl y2) (fun q => absurd f0 q) (fun _ => ⟨rfl, w20⟩)
      · refine Par.imp (x_163h g3.1 g3.2.1 (w := 5) (by decide) (by decide) (fun _ => rfl)) ?_
        rintro v7 s6 ⟨rfl, d1, d2, d3⟩
        rw [if_pos f0] at d3
        have hne : ¬ ((5 + 16 * L ρ.2, ρ.2) : RSt).1 = 0 := by dsimp only; omega
        refine ⟨rfl, nxt s6 _ d1 d3 (Or.inr hne) (fun _ => ⟨w20, ?_⟩) (fun q => absurd q hne)⟩
        rw [show (20 - b3.toInt).toNat = 0 by omega, p_ps, if_pos y2] at g4
        exact g4
    · omega
set_option maxHeartbeats 4000000 in
theorem x_175s (ih3 : T173 K L B n d) (ih6 : T176 K L B n d) (ih7 : T177 K L B n d) (hP : TXp K L n) : T175 K L B n (d + 1) := by
  intro M σ s hM h
  refine pb_175 ?_
  unfold ub_175_0
  refine Par.imp (x_166 h.1 h.2.1) ?_
  rintro v2 s1 ⟨rfl, x3, rfl, hr3⟩
  refine ⟨x3, rfl, ?_⟩
  refine Par.imp (x_172 h.1 h.2.1 hr3) ?_
  rintro v5 s4 ⟨rfl, p1, p2, p3, p4⟩
  refine ⟨rfl, ?_⟩
  have e26 : s4.1 26 = s1.1 26 := p2 26 (by decide) (by decide)
  have e7 : s4.1 7 = s1.1 7 := p2 7 (by decide) (by decide)
  have hb : decide ((s1.1 27).toInt = 10) = decide (M = 0) := by
    rw [h.2.2]
    by_cases e : M = 0
    · rw [decide_eq_true e, decide_eq_true (by omega)]
    · rw [decide_eq_false e, decide_eq_false (by omega)]
  rw [hb] at p4
  have T4 : RTk K L B n s4 := RTk_eq (by rw [p1]) (by rw [p1]) (by rw [p1]) h.1
  have F4 : EFx (s1.1 26).toInt s1 s4 := ⟨fun k _ k8 _ k27 _ => p2 k k8 k27, by rw [p1], fun p i _ _ => by rw [p1], by rw [e26]; exact Int.le_refl _⟩
  -- a VAR, or a fault
  have var : ¬ ((w_f K L (decide (M = 0)) σ).1 = 0 ∧ (K (σ.2 + 1) = 123 ∨ K (σ.2 + 1) = 91)) → ub_175_36 (Par d) s4 (fun v s' => ∃ r : Int32, v = some (.int r) ∧ 0 ≤ (s1.1 26).toInt ∧ (s1.1 26).toInt ≤ r.toInt ∧ r.toInt < (s'.1 26).toInt ∧ EFx (s1.1 26).toInt s1 s' ∧ Rp K L B n M (p_e K L M false σ) s' ∧ ((p_e K L M false σ).1 = 0 → eT K L B s' M (s1.1 26).toInt (s'.1 26).toInt σ.2 r.toInt ∧ (s'.2.1 225 r.toInt.toNat).toInt = -1)) := by
    intro hno
    unfold ub_175_36 ub_175_37
    refine ⟨fun _ => ?_, fun w => absurd (by decide) w⟩
    refine Par.imp x_171 ?_
    rintro v2 s6 ⟨x8, rfl, q1, q2, q3, q4, q5, q6, q7, q8⟩
    rw [e26] at q1 q2 q3 q4 q8
    refine ⟨x8, rfl, fun _ x9 hx9 s10 hs10 => ?_⟩
    have T10 : RTk K L B n s10 := by
      rw [hs10]
      exact RTk_78 R78_7 (TFx_tk q4 T4)
    have Q10 : RQr B n (e_f K L (decide (M = 0)) σ) s10 := by
      have p6 : RQr B n (w_f K L (decide (M = 0)) σ) s6 := ⟨by rw [q6]; exact p4.1, fun w => by rw [q5]; exact p4.2 w⟩
      rw [hs10]
      unfold w_f at p6
      unfold e_f
      by_cases h0 : σ.1 = 0
      · rw [if_pos h0] at p6 ⊢
        by_cases h1 : K σ.2 = 1
        · rw [if_pos h1] at p6 ⊢
          by_cases hm : M = 0
          · rw [decide_eq_true hm, if_pos rfl] at p6 ⊢
            exact RQ_7f p6 (by dsimp only; omega)
          · rw [decide_eq_false hm, if_neg (by decide)] at p6 ⊢
            have := RQ_ad hP p6 (by rw [h1]; decide) hx9
            unfold a_d at this
            rw [h0] at this
            exact this
        · rw [if_neg h1] at p6 ⊢
          exact RQ_7f p6 (by dsimp only; omega)
      · rw [if_neg h0] at p6 ⊢
        exact RQ_7f p6 h0
    have e1027 : (s10.1 27).toInt = 10 - (M : Int) + 1 := by rw [hs10, sfr_1, if_neg (by decide), q7, p3, h.2.2]
    have F10 : EFx (s1.1 26).toInt s1 s10 := by
      rw [hs10]
      exact EFx_tr (Int.le_refl _) F4 (EFx_tr (Int.le_refl _) (EFx_T q4) (EFx_sf (Or.inl rfl) (by omega)))
    have n10 : (s10.1 26).toInt = (s1.1 26).toInt + 1 := by rw [hs10, sfr_1, if_neg (by decide), q3]
    have N10 : nNw (s1.1 26).toInt 1 s4 s10 := by
      rw [hs10]
      exact q8
    cases M with
    | zero =>
      -- one too deep: the loop ends at once
      unfold ub_175_92 ubl_175_94
      refine ⟨fun b1 b2 b3 u => u = s10 ∧ b1 = x8, ⟨rfl, rfl⟩, ?_⟩
      rintro b1 b2 b3 u ⟨rfl, rfl⟩
      unfold ub_175_94
      have hf : ¬ (e_f K L true σ).1 = 0 := fun w => ef_t w
      refine Par.imp (x_164 T10 Q10 (a1 := 46) (by decide)) ?_
      rintro v2 s11 ⟨rfl, x3', rfl, hr⟩
      rw [show decide (0 = 0) = true from rfl, tk_f hf] at hr
      refine ⟨x3', rfl, fun _ _ x4 hx4 s5 hs5 => ?_, fun w => ?_⟩
      · have e5 : s5.1 26 = s11.1 26 := by rw [hs5, sfr_1, if_neg (by decide)]
        refine ⟨b1, rfl, q2, by omega, by rw [e5]; omega, ?_, ⟨?_, ?_, ?_⟩, fun w => absurd (show (e_f K L true σ).1 = 0 from w) hf⟩
        · rw [hs5]
          exact EFx_tr (Int.le_refl _) F10 (EFx_sf (Or.inr (Or.inr (Or.inl rfl))) (by omega))
        · rw [hs5]
          exact RTk_eq rfl rfl rfl T10
        · rw [hs5]
          exact ⟨by rw [sfr_1, if_neg (by decide)]; exact Q10.1, fun w => by rw [sfr_1, if_neg (by decide)]; exact Q10.2 w⟩
        · rw [hs5, sfr_1, if_pos rfl, hx4, e1027]
          omega
      · rcases hr with ⟨-, hr⟩ | ⟨hr, -⟩
        · cases hr
        · omega
    | succ m =>
      rw [decide_eq_false (by omega)] at Q10 hno
      have hnl : ¬ ((e_f K L false σ).1 = 0 ∧ (K (e_f K L false σ).2 = 123 ∨ K (e_f K L false σ).2 = 91)) := fun q => by
        obtain ⟨k0, k1, k2, k3⟩ := ef_0 q.1
        rw [k3] at q
        refine hno ⟨?_, q.2⟩
        unfold w_f
        rw [if_pos k0, if_pos k1, if_neg (by decide)]
        exact k0
      refine x_175l (s := s1) (t0 := σ.2) (R := p_e K L (m + 1) false σ) ih7 hP (m := m) (by omega) q2 ⟨T10, Q10, by omega⟩ ?_ ⟨by omega, by omega⟩ F10 (fun hf => ?_) (fun r u u1 u2 u3 u4 u5 u6 u7 => ⟨r, rfl, q2, u1, u2, u3, ⟨u4, u5, by omega⟩, fun hr => ?_⟩)
      · rw [p_e, if_neg hnl]
      · obtain ⟨k0, k1, k2, k3⟩ := ef_0 hf
        obtain ⟨n1, n2, n3, n4, n5, n6, n7, n8, n9⟩ := N10
        rw [q1]
        have hh : ¬ (K (σ.2 + 1) = 123 ∨ K (σ.2 + 1) = 91) := fun q => hnl ⟨hf, by rw [k3]; exact q⟩
        refine ⟨⟨rfl, ⟨⟨q2, by omega⟩, n6, ?_⟩, ?_⟩, n4⟩
        · rw [if_neg hh]
          exact ⟨n1, by rw [n2, e7]; exact (h.2.1.2 k0).1, n10⟩
        · unfold aHd
          rw [if_neg hh, k3]
      · obtain ⟨k, k1, k2, k3⟩ := u7 hr
        have hs0 := (pe_fw (m + 1) _ _ hr).1
        have hx : nxE K L σ.2 = (p_e K L (m + 1) false σ).2 := by
          unfold nxE
          rw [show ((0 : Int), σ.2) = σ by rw [← hs0], pe_mono (m + 1) 11 (by omega) _ _ hr]
        refine ⟨⟨k, k1, ?_⟩, k3⟩
        rw [hx]
        exact k2
  -- a TYPE ahead
  have lit : (w_f K L (decide (M = 0)) σ).1 = 0 → (K (σ.2 + 1) = 123 ∨ K (σ.2 + 1) = 91) → ub_175_34 (Par d) s4 (fun v s' => ∃ r : Int32, v = some (.int r) ∧ 0 ≤ (s1.1 26).toInt ∧ (s1.1 26).toInt ≤ r.toInt ∧ r.toInt < (s'.1 26).toInt ∧ EFx (s1.1 26).toInt s1 s' ∧ Rp K L B n M (p_e K L M false σ) s' ∧ ((p_e K L M false σ).1 = 0 → eT K L B s' M (s1.1 26).toInt (s'.1 26).toInt σ.2 r.toInt ∧ (s'.2.1 225 r.toInt.toNat).toInt = -1)) := by
    intro hw hk
    have hw2 : σ.1 = 0 ∧ K σ.2 = 1 ∧ ¬ M = 0 ∧ w_f K L (decide (M = 0)) σ = σ := by
      unfold w_f at hw ⊢
      by_cases g0 : σ.1 = 0
      · rw [if_pos g0] at hw ⊢
        by_cases g1 : K σ.2 = 1
        · rw [if_pos g1] at hw ⊢
          by_cases g2 : M = 0
          · rw [decide_eq_true g2, if_pos rfl] at hw
            dsimp only at hw
            omega
          · rw [decide_eq_false g2, if_neg (by decide)]
            exact ⟨g0, g1, g2, rfl⟩
        · rw [if_neg g1] at hw
          dsimp only at hw
          omega
      · rw [if_neg g0] at hw
        exact absurd hw g0
    obtain ⟨k0, k1, kM, k3⟩ := hw2
    rw [k3] at p4
    cases M with
    | zero => exact absurd rfl kM
    | succ m =>
      have hsg : ((0 : Int), σ.2) = σ := by rw [← k0]
      have hef : e_f K L false σ = (0, σ.2 + 1) := by
        unfold e_f
        rw [if_pos k0, if_pos k1, if_neg (by decide)]
      have hyes : (e_f K L false σ).1 = 0 ∧ (K (e_f K L false σ).2 = 123 ∨ K (e_f K L false σ).2 = 91) := by
        rw [hef]
        exact ⟨rfl, hk⟩
      unfold ub_175_34 ub_175_37
      refine ⟨fun w => absurd w (by decide), fun _ => ?_⟩
      refine Par.imp x_171 ?_
      rintro v7 s6 ⟨x8, rfl, q1, q2, q3, q4, q5, q6, q7, q8⟩
      rw [e26] at q1 q2 q3 q4 q8
      refine ⟨x8, rfl, ?_⟩
      have h6 : Rp K L B n m σ s6 := ⟨TFx_tk q4 T4, ⟨by rw [q6]; exact p4.1, fun w => by rw [q5]; exact p4.2 w⟩, by rw [q7, p3, h.2.2]; omega⟩
      have F6 : EFx (s1.1 26).toInt s1 s6 := EFx_tr (Int.le_refl _) F4 (EFx_T q4)
      refine Par.imp (ih3 m σ s6 (by omega) h6) ?_
      rintro v10 s9 ⟨x11, rfl, j1, j2, j3, j4, j5, j6⟩
      rw [q3] at j1 j2 j3 j4 j6
      refine ⟨x11, rfl, fun _ s12 hs12 => ?_⟩
      have hz : (((s1.1 26).toInt.toNat : Nat) : Int) = (s1.1 26).toInt := Int.toNat_of_nonneg q2
      rw [q1] at hs12
      have e12 : s12.1 = s9.1 := by rw [hs12]; rfl
      have r12 : ∀ q j, s12.2.1 q j = if q = 229 ∧ j = (s1.1 26).toInt.toNat then x11 else s9.2.1 q j := fun q j => by rw [hs12, sa_21]
      have h12 : Rp K L B n m (p_t K L m false σ) s12 := by
        rw [hs12]
        exact Rp_sa j5 (by omega)
      refine Par.imp (x_167 hP h12.1 h12.2.1 (a1 := 123) (by decide)) ?_
      rintro v14 s13 ⟨rfl, w1, w2⟩
      rw [show (123 : Int32).toInt = 123 by decide] at w2
      refine ⟨rfl, fun _ s15 hs15 => ?_⟩
      rw [q1] at hs15
      have e15 : s15.1 = s13.1 := by rw [hs15]; rfl
      have h15 : Rp K L B n m (e_k K L 123 (p_t K L m false σ)) s15 := by
        rw [hs15]
        exact Rp_sa (Rp_78 h12 w1 w2) (by omega)
      have n15 : (s15.1 26).toInt = (s9.1 26).toInt := by rw [e15, w1.2 26 (by decide) (by decide), e12]
      have r15 : ∀ q j, s15.2.1 q j = if q = 224 ∧ j = (s1.1 26).toInt.toNat then -1 else if q = 229 ∧ j = (s1.1 26).toInt.toNat then x11 else s9.2.1 q j := fun q j => by rw [hs15, sa_21, w1.1, r12]
      have F15 : EFx (s1.1 26).toInt s1 s15 := by
        have f9 : EFx (s1.1 26).toInt s1 s9 := EFx_tr (by omega) F6 (EFx_T j4)
        have f12 : EFx (s1.1 26).toInt s1 s12 := by
          rw [hs12]
          exact EFx_tr (Int.le_refl _) f9 (EFx_sa (Or.inr ⟨by unfold nRe nRw; omega, by omega⟩) (by omega))
        rw [hs15]
        exact EFx_tr (Int.le_refl _) (EFx_tr (Int.le_refl _) f12 (EFx_78 w1 (by rw [e12]; omega))) (EFx_sa (Or.inr ⟨by unfold nRe nRw; omega, by omega⟩) (by rw [w1.2 26 (by decide) (by decide), e12]; omega))
      obtain ⟨n1, n2, n3, n4, n5, n6, n7, n8, n9⟩ := q8
      have o15 : ∀ p, ¬ p = 224 → ¬ p = 229 → s15.2.1 p (s1.1 26).toInt.toNat = s6.2.1 p (s1.1 26).toInt.toNat := fun p h1 h2 => by
        rw [r15, if_neg (fun q => h1 q.1), if_neg (fun q => h2 q.1), j4.2.2.1 p _ (Or.inr (by omega))]
      refine x_args2 ih6 hP (by omega) (Or.inr ⟨rfl, rfl⟩) (show (125 : Int32).toInt = 125 by decide) (N := (s1.1 26).toInt) (σ := p_t K L m false σ) ⟨q2, q1⟩ h15 (by omega) (by rw [r15, if_pos ⟨rfl, rfl⟩]; decide) (by rw [o15 226 (by decide) (by decide)]; exact n5) (fun t => ub_175_92 (Par d) x8 1 t _) _ (fun t ht => ht) (fun t t0 t1 t2 t3 t4 t5 => ?_)
      · refine x_175l (s := s1) (t0 := σ.2) (R := p_e K L (m + 1) false σ) ih7 hP (m := m) (by omega) q2 t4 ?_ ⟨by omega, by omega⟩ (EFx_tr (Int.le_refl _) F15 t2) (fun hf => ?_) (fun r u u1 u2 u3 u4 u5 u6 u7 => ⟨r, rfl, q2, u1, u2, u3, ⟨u4, u5, by omega⟩, fun hr => ?_⟩)
        · rw [p_e, if_pos hyes]
        · obtain ⟨z1, z2, z3⟩ := pvs_fw (pe_fw m) hf
          obtain ⟨y1, y2⟩ := j6 z1
          have hnx : nxT K L σ.2 = (p_t K L m false σ).2 := by
            unfold nxT
            rw [hsg, pt_mono m 11 (by omega) _ _ z1]
          have hrow : ∀ p, ¬ p = 228 → ¬ p = 224 → ¬ p = 226 → t.2.1 p (s1.1 26).toInt.toNat = s15.2.1 p (s1.1 26).toInt.toNat := fun p h0 h1 h2 => t3 p (s1.1 26).toInt h0 q2 (by omega) (by omega)
          rw [q1]
          refine ⟨⟨rfl, ⟨⟨q2, by omega⟩, by rw [hrow 227 (by decide) (by decide) (by decide), o15 227 (by decide) (by decide)]; exact n6, ?_⟩, ?_⟩, by rw [hrow 225 (by decide) (by decide) (by decide), o15 225 (by decide) (by decide)]; exact n4⟩
          · rw [if_pos hk]
            refine ⟨by rw [hrow 221 (by decide) (by decide) (by decide), o15 221 (by decide) (by decide)]; exact n1, by rw [hrow 229 (by decide) (by decide) (by decide), r15, if_neg (by omega), if_pos ⟨rfl, rfl⟩, j1], (s9.1 26).toInt, by omega, ?_, ?_⟩
            · refine yT_eq m _ _ _ y1 ⟨fun p i hp i1 i2 => ?_, fun i i1 i2 => ?_⟩
              · rw [t3 p i (by omega) (by omega) (by omega) (by omega), r15, if_neg (by omega), if_neg (by omega)]
              · rw [t3 225 i (by omega) (by omega) (by omega) (by omega), r15, if_neg (by omega), if_neg (by omega)]
            · rw [hnx]
              have := t5 hf
              rw [n15] at this
              exact this
          · unfold aHd
            rw [if_pos hk, hnx, show ((0 : Int), (p_t K L m false σ).2) = p_t K L m false σ by rw [← z1], (pvs_mono (pe_mono m 11 (by omega)) hf).1]
        · obtain ⟨k, c1, c2, c3⟩ := u7 hr
          have hx : nxE K L σ.2 = (p_e K L (m + 1) false σ).2 := by
            unfold nxE
            rw [hsg, pe_mono (m + 1) 11 (by omega) _ _ hr]
          refine ⟨⟨k, c1, ?_⟩, c3⟩
          rw [hx]
          exact c2
  refine ⟨fun w => var (fun q => w (by rw [p4.1]; exact q.1)), fun h0 => ?_⟩
  have hw0 : (w_f K L (decide (M = 0)) σ).1 = 0 := by rw [← p4.1]; exact h0
  have hw2 : K σ.2 = 1 ∧ w_f K L (decide (M = 0)) σ = σ := by
    have hh := hw0
    unfold w_f at hh ⊢
    by_cases g0 : σ.1 = 0
    · rw [if_pos g0] at hh ⊢
      by_cases g1 : K σ.2 = 1
      · rw [if_pos g1] at hh ⊢
        by_cases g2 : M = 0
        · rw [decide_eq_true g2, if_pos rfl] at hh
          dsimp only at hh
          omega
        · rw [decide_eq_false g2, if_neg (by decide)]
          exact ⟨g1, rfl⟩
      · rw [if_neg g1] at hh
        dsimp only at hh
        omega
    · rw [if_neg g0] at hh
      exact absurd hh g0
  obtain ⟨b1, b2, b3⟩ := p4.2 hw0
  rw [hw2.2] at b1 b2 b3
  have b4 : ¬ σ.2 = n := fun q => by
    have := hw2.1
    rw [q, hP.2.1] at this
    omega
  have hkR := (T4 (σ.2 + 1) (by omega) (by omega)).1
  have s123 := kR_sg (c := 123) hkR (by decide)
  have s91 := kR_sg (c := 91) hkR (by decide)
  rw [show B + (σ.2 + 1) = B + σ.2 + 1 by omega, ← b1] at s123 s91
  intro _ x6 hx6 _
  rw [← hx6] at s123 s91
  refine ⟨fun w => var (fun q => ?_), fun w15 _ x7 hx7 _ => ?_⟩
  · rcases q.2 with q | q
    · exact w (s123.mpr q).1
    · exact w (s91.mpr q).1
  have ex7 : x7.toInt = x6.toInt := by omega
  rw [ex7]
  refine ⟨fun w => lit hw0 (Or.inl (s123.mp ⟨w15, w⟩)), fun w40 _ x8 hx8 _ => ?_⟩
  have ex8 : x8.toInt = x6.toInt := by omega
  rw [ex8]
  refine ⟨fun w => var (fun q => ?_), fun w => lit hw0 (Or.inr (s91.mp ⟨w15, w⟩))⟩
  rcases q.2 with q | q
  · exact w40 (s123.mpr q).2
  · exact w (s91.mpr q).2
theorem x_18 (hP : TXp K L n) : ∀ d, T175 K L B n d ∧ T176 K L B n d ∧ T177 K L B n d
  | 0 => ⟨fun _ _ _ _ _ => Par_0, fun _ _ _ _ _ => Par_0, fun _ _ _ _ _ _ _ => Par_0⟩
  | d + 1 => ⟨x_175s (x_17 hP d).1 (x_18 hP d).2.1 (x_18 hP d).2.2 hP, x_176s (x_18 hP d).1 hP, x_177s (x_17 hP d).1 (x_17 hP d).2 (x_18 hP d).2.1 hP⟩
end RE8
