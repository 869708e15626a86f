/-! ===== readFunc, whole ===== -/
section RFW
variable {d : Nat} {K L : Int → Int} {B n N N' x y : Int} {s s' s'' t : yS} {σ ρ τ : RSt} {a1 v : Int32} {G h e b M k : Int} {LP Ls : List Int} {W : Nat → Nat → Prop} {R : RSt} {F : Nat}
theorem ek_nn (hP : TXp K L n) (g : RQr B n σ s) (h0 : 0 ≤ σ.1) : 0 ≤ (e_k K L k σ).1 := by
  unfold e_k
  by_cases hz : σ.1 = 0
  · rw [if_pos hz]
    have := (hP.2.2 _ (g.2 hz).2.1 (g.2 hz).2.2).1
    by_cases hk : K σ.2 = k
    · rw [if_pos hk]
      dsimp only
      omega
    · rw [if_neg hk]
      dsimp only
      omega
  · rw [if_neg hz]
    exact h0
theorem w5_nn {c : Bool} (hP : TXp K L n) (g : RQr B n σ s) (h0 : 0 ≤ σ.1) : 0 ≤ (w_5 K L c σ).1 := by
  unfold w_5
  by_cases hc : c = true ∧ t_k K 1 σ = true
  · rw [if_pos hc]
    have hz := (tk_t hc.2).1
    have := (hP.2.2 _ (g.2 hz).2.1 (g.2 hz).2.2).1
    dsimp only
    omega
  · rw [if_neg hc]
    exact h0
/-- the loop over the names in [ ] -/
def FLp (K L : Int → Int) (B n G : Int) (s : yS) (t1 t2 t3 : Int) (R : RSt) (LP : List Int) (t : yS) : Prop := ∃ ρ : RSt, RTk K L B n t ∧ RQr B n ρ t ∧ 0 ≤ ρ.1 ∧ GFx (s.1 26).toInt (WFn G) s t ∧ t.1 42 = s.1 42 ∧ (¬ ρ.1 = 0 → R = ρ) ∧ (ρ.1 = 0 → ∃ L0 : List Int, L0 ≠ [] ∧ FNb B t G t1 t2 t3 L0 ∧ (t_k K 44 ρ = true → p_l K L (e_f K L) 93 (7 - L0.length) (a_d ρ) = R ∧ LP = L0 ++ p_ls K (e_f K L) (7 - L0.length) (a_d ρ)) ∧ (t_k K 44 ρ = false → e_k K L 93 ρ = R ∧ LP = L0))
set_option maxHeartbeats 4000000 in
theorem x_184l {Q : Option Value → yS → Prop} {t1 t2 t3 : Int} (hP : TXp K L n) (hG : a1.toInt = G) (h0 : 0 ≤ G) (hL : FLp K L B n G s t1 t2 t3 R LP t) (hQ : ∀ u : yS, RTk K L B n u → RQr B n R u → 0 ≤ R.1 → GFx (s.1 26).toInt (WFn G) s u → u.1 42 = s.1 42 → (R.1 = 0 → FNb B u G t1 t2 t3 LP) → ub_184_103 (Par d) a1 u Q) : ubl_184_70 (Par d) a1 t Q := by
  refine ⟨fun c1 u => c1 = a1 ∧ FLp K L B n G s t1 t2 t3 R LP u, ⟨rfl, hL⟩, ?_⟩
  rintro c1 u ⟨rfl, ρ, g1, g2, g3, g4, g5, g6, g7⟩
  have hN := g4.2.2.2
  unfold ub_184_70
  refine Par.imp (x_168 hP g1 g2 (a1 := 44) (by decide)) ?_
  rintro v2 s1 ⟨m1, x3, rfl, m2⟩
  rw [show (44 : Int32).toInt = 44 by decide] at m2
  have e26 : s1.1 26 = u.1 26 := m1.2 26 (by decide) (by decide)
  have F1 : GFx (s.1 26).toInt (WFn G) s s1 := GFx_tr (Int.le_refl _) g4 (GFx_78 m1 hN)
  have e42 : s1.1 42 = s.1 42 := by rw [m1.2 42 (by decide) (by decide)]; exact g5
  have T1 := RTk_78 m1 g1
  refine ⟨x3, rfl, fun w => ?_, fun w => ?_⟩
  · rcases m2 with ⟨m3, -⟩ | ⟨-, m4, m5, -⟩
    · omega
    refine Par.imp (x_167 hP T1 m5 (a1 := 93) (by decide)) ?_
    rintro v5 s4 ⟨rfl, q1, q2⟩
    rw [show (93 : Int32).toInt = 93 by decide] at q2
    have hR : e_k K L 93 ρ = R := by
      by_cases hz : ρ.1 = 0
      · obtain ⟨L0, -, -, -, z3⟩ := g7 hz
        exact (z3 m4).1
      · rw [ek_f hz, g6 hz]
    have hnn : 0 ≤ R.1 := by rw [← hR]; exact ek_nn hP g2 g3
    rw [hR] at q2
    refine ⟨rfl, hQ s4 (RTk_78 q1 T1) q2 hnn (GFx_tr (Int.le_refl _) F1 (GFx_78 q1 (by rw [e26]; exact hN))) (by rw [q1.2 42 (by decide) (by decide)]; exact e42) (fun hf => ?_)⟩
    rw [← hR] at hf
    obtain ⟨L0, -, z2, -, z3⟩ := g7 (ek_0 hf).1
    rw [(z3 m4).2]
    have := FNb_fr (W := fun _ _ => False) (GFx_78 (N := (u.1 26).toInt) m1 (Int.le_refl _)) (fun _ _ _ => id) z2
    exact FNb_fr (W := fun _ _ => False) (GFx_78 (N := (s1.1 26).toInt) q1 (Int.le_refl _)) (fun _ _ _ => id) this
  · rcases m2 with ⟨-, m4, m5⟩ | ⟨m3, -⟩
    · have hz := (tk_t m4).1
      obtain ⟨L0, z0, z1, z2, -⟩ := g7 hz
      obtain ⟨z3, z4⟩ := z2 m4
      have z1' := FNb_fr (W := fun _ _ => False) (GFx_78 (N := (u.1 26).toInt) m1 (Int.le_refl _)) (fun _ _ _ => id) z1
      obtain ⟨st1, st2⟩ := ls_st (fun σ w => ef_t w) z1.2.2.2.1 z3 z4
      have hA : 0 ≤ (a_d ρ).1 := by
        unfold a_d
        dsimp only
        omega
      have nxt : ∀ u' : yS, R78 s1 u' → RQr B n (w_5 K L (decide (L0.length = 6)) (a_d ρ)) u' → ub_184_88 (Par d) (fun c1' u => c1' = c1 ∧ FLp K L B n G s t1 t2 t3 R LP u) c1 u' Q := by
        intro u' r1 r2
        unfold ub_184_88
        refine Par.imp (x_170 hP (RTk_78 r1 T1) r2) ?_
        rintro v3 s2 ⟨x4, rfl, j1, j2, -⟩
        rw [w5_e] at j2
        have rj := R78_tr r1 j1
        have z5 := FNb_fr (W := fun _ _ => False) (GFx_78 (N := (s1.1 26).toInt) rj (Int.le_refl _)) (fun _ _ _ => id) z1'
        refine ⟨x4, rfl, fun _ => ?_⟩
        rw [hG, z5.2.2.1]
        intro _ x5 hx5 _ s6 hs6
        have e6 : s6.1 = s2.1 := by rw [hs6]; rfl
        have r6 : ∀ q j, s6.2.1 q j = if q = 255 ∧ j = G.toNat then x5 else s2.2.1 q j := fun q j => by rw [hs6, sa_21]
        have e226 : s2.1 26 = s1.1 26 := rj.2 26 (by decide) (by decide)
        have G6 : GFx (s1.1 26).toInt (WFn G) s1 s6 := by
          rw [hs6]
          exact GFx_tr (Int.le_refl _) (GFx_78 rj (Int.le_refl _)) (GFx_sa ⟨by omega, by omega⟩ (by rw [e226]; exact Int.le_refl _))
        refine ⟨rfl, e_f K L (decide (L0.length = 6)) (a_d ρ), ?_, RQr_1 (s := s2) (by rw [e6]) (by rw [e6]) j2, ?_, GFx_tr (by rw [e26]; exact hN) F1 G6, by rw [e6, rj.2 42 (by decide) (by decide)]; exact e42, st1, fun hf => ?_⟩
        · exact GFx_tk WFn_no G6 T1
        · rw [← w5_e]
          exact ek_nn hP r2 (w5_nn hP m5 hA)
        · obtain ⟨y1, y2, y3⟩ := st2 hf
          have el : (L0 ++ [(a_d ρ).2]).length = L0.length + 1 := by
            rw [List.length_append]
            rfl
          obtain ⟨z51, z52, z53, z54, z55⟩ := z5
          refine ⟨L0 ++ [(a_d ρ).2], by simp, ⟨by rw [r6, if_neg (by omega)]; exact z51, by rw [r6, if_neg (by omega)]; exact z52, by rw [r6, if_pos ⟨rfl, rfl⟩, hx5, el]; omega, by rw [el]; omega, fun _ => by rw [r6, if_neg (by omega)]; exact z55 z0⟩, ?_, ?_⟩
          · rw [el]
            exact y2
          · exact y3
      rw [hG, z1'.2.2.1]
      refine fun _ => ⟨fun h6 => ?_, fun h6 => ?_⟩
      · refine nxt s1 R78_rf ?_
        have : w_5 K L (decide (L0.length = 6)) (a_d ρ) = a_d ρ := by
          unfold w_5
          rw [if_neg (fun w => by have := of_decide_eq_true w.1; omega)]
        rw [this]
        exact m5
      · have hd : decide (L0.length = 6) = true := decide_eq_true (by omega)
        refine Par.imp (x_166 T1 m5) ?_
        rintro v7 s6 ⟨rfl, x8, rfl, hr⟩
        refine ⟨x8, rfl, fun w8 => ?_, fun w8 => ?_⟩
        · rcases hr with ⟨y1, -⟩ | ⟨-, y1⟩
          · omega
          refine nxt s6 R78_rf ?_
          have : w_5 K L (decide (L0.length = 6)) (a_d ρ) = a_d ρ := by
            unfold w_5
            rw [if_neg (fun w => by rw [y1] at w; cases w.2)]
          rw [this]
          exact m5
        · rcases hr with ⟨-, y1⟩ | ⟨y1, -⟩
          · refine Par.imp (x_163h T1 m5 (w := 5) (by decide) (by decide) (fun _ => rfl)) ?_
            rintro v10 s9 ⟨rfl, j1, j2, j3⟩
            rw [if_pos (tk_t y1).1] at j3
            refine ⟨rfl, nxt s9 j1 ?_⟩
            unfold w_5
            rw [if_pos ⟨hd, y1⟩]
            exact j3
          · omega
    · omega
/-- one func too many -/
theorem pfn_t (h0 : σ.1 = 0) : p_fn K L true σ = (5 + 16 * L σ.2, σ.2) := by
  have hf : ¬ ((5 + 16 * L σ.2, σ.2) : RSt).1 = 0 := by
    dsimp only
    omega
  have e0 : f_0 L true σ = (5 + 16 * L σ.2, σ.2) := by
    unfold f_0
    rw [if_pos ⟨h0, rfl⟩]
  have e1 : f_1 K L true σ = (5 + 16 * L σ.2, σ.2) := by
    unfold f_1
    rw [e0, ek_f hf, ek_f hf]
  have e3 : f_3 K L true σ = (5 + 16 * L σ.2, σ.2) := by
    unfold f_3 f_2
    rw [e1, ek_f hf, ek_f hf]
  have e4 : f_4 K L true σ = (5 + 16 * L σ.2, σ.2) := by
    unfold f_4
    rw [e3, tk_f hf, if_neg (by decide)]
  have e6 : f_6 K L true σ = (5 + 16 * L σ.2, σ.2) := by
    unfold f_6 f_5
    rw [e4, ek_f hf, ek_f hf]
  unfold p_fn f_7
  rw [e6, hd_f hf, ek_f hf, ek_f hf, pe_f 10 hf, ek_f hf]
set_option maxHeartbeats 4000000 in
theorem x_184 (hP : TXp K L n) (hT : RTk K L B n s) (g : RQr B n σ s) (hk : t_k K 6 σ = true) (hb : (s.1 30).toInt = b) (hM : (s.2.1 263 b.toNat).toInt = M) (hM0 : 0 ≤ M) (hF : (s.2.1 252 b.toNat).toInt = (F : Int)) (hF3 : F ≤ 60) (hh : 0 ≤ (s.1 42).toInt) : Par d 184 [.ref 213] s (fun v s' => v = none ∧ FQp K L B n (60 * b + (F : Int)) (s.1 42).toInt (84 * b + M) b F M s (p_fn K L (decide (60 ≤ F)) σ) σ.2 s') := by
  obtain ⟨k0, k1⟩ := tk_t hk
  cases d with
  | zero => exact Par_0
  | succ d =>
    refine pb_184 ?_
    unfold ub_184_0
    rw [hb]
    intro _ x1 hx1 hb2
    rw [hF]
    intro _ x2 hx2 _
    generalize hG : 60 * b + (F : Int) = G
    have eG : x2.toInt = G := by omega
    have hG0 : 0 ≤ G := by omega
    refine ⟨fun w => ?_, fun w => ?_⟩
    · have hdec : decide (60 ≤ F) = false := decide_eq_false (by omega)
      rw [hdec, eG]
      intro _ x3 hx3 s4 hs4
      have e40 : e_k K L 6 (f_0 L false σ) = a_d σ := by
        unfold f_0
        rw [if_neg (fun w => by cases w.2), ek_y k0 k1]
        unfold a_d
        rw [k0]
      have Q4 : RQr B n (a_d σ) s4 := by
        rw [hs4]
        exact RQ_ad hP g (by rw [k1]; decide) hx3
      have T4 : RTk K L B n s4 := by rw [hs4]; exact RTk_eq (s := s) rfl rfl rfl hT
      have F4 : GFx (s.1 26).toInt (WFn G) s s4 := by rw [hs4]; exact GFx_sf (by omega) (Int.le_refl _)
      have e426 : s4.1 26 = s.1 26 := by rw [hs4, sfr_1, if_neg (by decide)]
      have e442 : s4.1 42 = s.1 42 := by rw [hs4, sfr_1, if_neg (by decide)]
      refine Par.imp (x_167 hP T4 Q4 (a1 := 40) (by decide)) ?_
      rintro v6 s5 ⟨rfl, p1, p2⟩
      rw [show (40 : Int32).toInt = 40 by decide, ← e40] at p2
      change RQr B n (f_1 K L false σ) s5 at p2
      have n1 : 0 ≤ (f_1 K L false σ).1 := by
        unfold f_1
        rw [e40]
        exact ek_nn hP Q4 (by unfold a_d; dsimp only; omega)
      refine ⟨rfl, ?_⟩
      refine Par.imp (x_170 hP (RTk_78 p1 T4) p2) ?_
      rintro v8 s7 ⟨x9, rfl, q1, q2, q3⟩
      change RQr B n (f_2 K L false σ) s7 at q2
      have n2 : 0 ≤ (f_2 K L false σ).1 := ek_nn hP p2 n1
      refine ⟨x9, rfl, fun _ s10 hs10 => ?_⟩
      have e10 : s10.1 = s7.1 := by rw [hs10]; rfl
      have pq := R78_tr p1 q1
      have T10 : RTk K L B n s10 := by rw [hs10]; exact RTk_sa (by decide) (RTk_78 pq T4)
      have Q10 : RQr B n (f_2 K L false σ) s10 := RQr_1 (s := s7) (by rw [e10]) (by rw [e10]) q2
      refine Par.imp (x_170 hP T10 Q10) ?_
      rintro v12 s11 ⟨x13, rfl, k2, k3, k4⟩
      change RQr B n (f_3 K L false σ) s11 at k3
      have n3 : 0 ≤ (f_3 K L false σ).1 := ek_nn hP Q10 n2
      refine ⟨x13, rfl, fun _ s14 hs14 _ s15 hs15 _ s16 hs16 => ?_⟩
      have e16 : s16.1 = s11.1 := by rw [hs16, hs15, hs14]; rfl
      have r16 : ∀ q j, s16.2.1 q j = if q = 256 ∧ j = G.toNat then -1 else if q = 255 ∧ j = G.toNat then 0 else if q = 254 ∧ j = G.toNat then x13 else if q = 253 ∧ j = G.toNat then x9 else s4.2.1 q j := fun q j => by rw [hs16, sa_21, hs15, sa_21, hs14, sa_21, k2.1, hs10, sa_21, pq.1]
      have e1626 : s16.1 26 = s.1 26 := by rw [e16, k2.2 26 (by decide) (by decide), e10, pq.2 26 (by decide) (by decide), e426]
      have e1642 : s16.1 42 = s.1 42 := by rw [e16, k2.2 42 (by decide) (by decide), e10, pq.2 42 (by decide) (by decide), e442]
      have F16 : GFx (s.1 26).toInt (WFn G) s s16 := by
        refine GFx_tr (Int.le_refl _) F4 ⟨fun q h7 h8 h26 h27 h28 h42 => by rw [e16, k2.2 q h7 h8, e10, pq.2 q h7 h8], by rw [hs16, hs15, hs14]; show s11.2.2 = s4.2.2; rw [k2.1, hs10]; show s7.2.2 = s4.2.2; rw [pq.1], fun p i _ _ w => ?_, by rw [e1626]; exact Int.le_refl _⟩
        have nw : ∀ q : Nat, 253 ≤ q → q ≤ 258 → ¬ (p = q ∧ i = G.toNat) := fun q hq hq2 w2 => w ⟨by omega, by omega⟩
        rw [r16, if_neg (nw 256 (by omega) (by omega)), if_neg (nw 255 (by omega) (by omega)), if_neg (nw 254 (by omega) (by omega)), if_neg (nw 253 (by omega) (by omega))]
      have T16 : RTk K L B n s16 := GFx_tk WFn_no F16 hT
      have Q16 : RQr B n (f_3 K L false σ) s16 := RQr_1 (s := s11) (by rw [e16]) (by rw [e16]) k3
      have base : (f_3 K L false σ).1 = 0 → (s16.2.1 253 G.toNat).toInt = B + (f_1 K L false σ).2 ∧ (s16.2.1 254 G.toNat).toInt = B + (f_2 K L false σ).2 := fun hf => by
        have h2 : (f_2 K L false σ).1 = 0 := (ek_0 hf).1
        have h1 : (f_1 K L false σ).1 = 0 := (ek_0 h2).1
        refine ⟨?_, ?_⟩
        · rw [r16, if_neg (by omega), if_neg (by omega), if_neg (by omega), if_pos ⟨rfl, rfl⟩]
          exact q3 h1
        · rw [r16, if_neg (by omega), if_neg (by omega), if_pos ⟨rfl, rfl⟩]
          exact k4 h2
      refine Par.imp (x_168 hP T16 Q16 (a1 := 91) (by decide)) ?_
      rintro v18 s17 ⟨m1, x19, rfl, m2⟩
      rw [show (91 : Int32).toInt = 91 by decide] at m2
      have F17 : GFx (s.1 26).toInt (WFn G) s s17 := GFx_tr (Int.le_refl _) F16 (GFx_78 m1 (by rw [e1626]; exact Int.le_refl _))
      have e1742 : s17.1 42 = s.1 42 := by rw [m1.2 42 (by decide) (by decide)]; exact e1642
      have e1726 : s17.1 26 = s.1 26 := by rw [m1.2 26 (by decide) (by decide)]; exact e1626
      refine ⟨x19, rfl, fun w19 => ?_, fun w19 => ?_⟩
      · rcases m2 with ⟨m3, -⟩ | ⟨-, m4, m5, -⟩
        · omega
        have e4 : f_4 K L false σ = f_3 K L false σ := by
          unfold f_4
          rw [if_neg (by rw [m4]; decide)]
        have eP : fPa K L false σ = [] := by
          unfold fPa
          rw [if_neg (by rw [m4]; decide)]
        refine x_184t hP eG hG0 hh hb hM hM0 hF rfl rfl (RTk_78 m1 T16) (by rw [e4]; exact m5) F17 e1742 (fun hf => ⟨k0, ?_⟩) (by rw [e4]; exact n3)
        rw [e4] at hf
        rw [eP]
        obtain ⟨b1, b2⟩ := base hf
        exact ⟨by rw [m1.1]; exact b1, by rw [m1.1]; exact b2, by rw [m1.1, r16, if_neg (by omega), if_pos ⟨rfl, rfl⟩]; rfl, by decide, fun w => absurd rfl w⟩
      · rcases m2 with ⟨-, m4, m5⟩ | ⟨m3, -⟩
        · have e4 : f_4 K L false σ = p_l K L (e_f K L) 93 7 (a_d (f_3 K L false σ)) := by
            unfold f_4
            rw [if_pos m4]
          have eP : fPa K L false σ = p_ls K (e_f K L) 7 (a_d (f_3 K L false σ)) := by
            unfold fPa
            rw [if_pos m4]
          have h3 := (tk_t m4).1
          obtain ⟨b1, b2⟩ := base h3
          refine Par.imp (x_170 hP (RTk_78 m1 T16) m5) ?_
          rintro v21 s20 ⟨x22, rfl, j1, j2, j3⟩
          have j3' : x22.toInt = B + ((f_3 K L false σ).2 + 1) := j3 h3
          refine ⟨x22, rfl, fun _ s23 hs23 _ s24 hs24 => ?_⟩
          have e24 : s24.1 = s20.1 := by rw [hs24, hs23]; rfl
          have r24 : ∀ q j, s24.2.1 q j = if q = 255 ∧ j = G.toNat then 1 else if q = 256 ∧ j = G.toNat then x22 else s16.2.1 q j := fun q j => by rw [hs24, sa_21, hs23, sa_21, j1.1, m1.1]
          have e2426 : s24.1 26 = s.1 26 := by rw [e24, j1.2 26 (by decide) (by decide), e1726]
          have F24 : GFx (s.1 26).toInt (WFn G) s s24 := by
            refine GFx_tr (Int.le_refl _) F17 ⟨fun q h7 h8 _ _ _ _ => by rw [e24, j1.2 q h7 h8], by rw [hs24, hs23]; show s20.2.2 = s17.2.2; rw [j1.1], fun p i _ _ w => ?_, by rw [e2426]; exact Int.le_refl _⟩
            have nw : ∀ q : Nat, 253 ≤ q → q ≤ 258 → ¬ (p = q ∧ i = G.toNat) := fun q hq hq2 w2 => w ⟨by omega, by omega⟩
            rw [r24, if_neg (nw 255 (by omega) (by omega)), if_neg (nw 256 (by omega) (by omega)), m1.1]
          generalize hR : p_l K L (e_f K L) 93 7 (a_d (f_3 K L false σ)) = R at e4
          generalize hLP : p_ls K (e_f K L) 7 (a_d (f_3 K L false σ)) = LP at eP
          obtain ⟨st1, st2⟩ := ls_st (k := 0) (L0 := []) (fun σ w => ef_t w) (by omega) hR hLP.symm
          rw [decide_eq_false (show ¬ 0 = 6 by decide), ef_e] at st1 st2
          refine x_184l (t1 := (f_1 K L false σ).2) (t2 := (f_2 K L false σ).2) (t3 := (f_3 K L false σ).2 + 1) (R := R) (LP := LP) hP eG hG0 ⟨e_k K L 1 (a_d (f_3 K L false σ)), GFx_tk WFn_no F24 hT, RQr_1 (s := s20) (by rw [e24]) (by rw [e24]) j2, ek_nn hP m5 n3, F24, by rw [e24, j1.2 42 (by decide) (by decide)]; exact e1742, st1, fun hf => ?_⟩ (fun u u1 u2 u3 u4 u5 u6 => ?_)
          · obtain ⟨-, y2, y3⟩ := st2 hf
            refine ⟨[(a_d (f_3 K L false σ)).2], by simp, ⟨by rw [r24, if_neg (by omega), if_neg (by omega)]; exact b1, by rw [r24, if_neg (by omega), if_neg (by omega)]; exact b2, by rw [r24, if_pos ⟨rfl, rfl⟩]; rfl, by show 1 ≤ 6; decide, fun _ => by rw [r24, if_neg (by omega), if_pos ⟨rfl, rfl⟩]; exact j3'⟩, y2, y3⟩
          · refine x_184t hP eG hG0 hh hb hM hM0 hF rfl rfl u1 (by rw [e4]; exact u2) u4 u5 (fun hf => ⟨k0, ?_⟩) (by rw [e4]; exact u3)
            rw [e4] at hf
            rw [eP]
            exact u6 hf
        · omega
    · have hdec : decide (60 ≤ F) = true := decide_eq_true (by omega)
      rw [hdec]
      refine Par.imp (x_163h hT g (w := 5) (by decide) (by decide) (fun _ => rfl)) ?_
      rintro v7 s7 ⟨rfl, j1, j2, j3⟩
      rw [if_pos k0] at j3
      refine ⟨rfl, rfl, RTk_78 j1 hT, by rw [pfn_t k0]; exact j3, GFx_78 j1 (Int.le_refl _), fun hf => ?_⟩
      rw [pfn_t k0] at hf
      dsimp only at hf
      omega
end RFW
