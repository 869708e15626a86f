/-! ===== readType, whole ===== -/
section RTW
variable {d : Nat} {K L : Int → Int} {B n N N' x y : Int} {s s' s'' t : yS} {σ ρ τ : RSt} {a1 v : Int32} {f D h e b M : Int} {LF LM Ls : List Int} {W : Nat → Nat → Prop} {st : Bool} {R : RSt} {T : Nat}
/-- one type too many -/
theorem pty_t (h0 : σ.1 = 0) (hk : K σ.2 = 3) : p_ty K L true σ = (5 + 16 * L σ.2, σ.2) := by
  have e0 : y_0 K L true σ = (5 + 16 * L σ.2, σ.2) := by
    unfold y_0
    rw [if_pos ⟨decide_eq_true ⟨h0, hk⟩, rfl⟩]
  have hf : ¬ ((5 + 16 * L σ.2, σ.2) : RSt).1 = 0 := by
    dsimp only
    omega
  have e1 : y_1 K L true σ = (5 + 16 * L σ.2, σ.2) := by
    unfold y_1
    rw [e0, ek_f hf]
  have e2 : y_2 K L true σ = (5 + 16 * L σ.2, σ.2) := by
    unfold y_2
    rw [e1, ek_f hf]
  have e3 : y_3 K L true σ = (5 + 16 * L σ.2, σ.2) := by
    unfold y_3
    rw [e2, tk_f hf, if_neg (by decide)]
  have e4 : y_4 K L true σ = (5 + 16 * L σ.2, σ.2) := by
    unfold y_4
    rw [e3, tk_f hf, if_neg (by decide), ek_f hf]
  have e5 : y_5 K L true σ = (5 + 16 * L σ.2, σ.2) := by
    unfold y_5
    rw [e4, ek_f hf]
  unfold p_ty
  rw [e5, pmb_f hf, ek_f hf]
/-- what readType writes ahead of { -/
def W8a (D : Int) (p i : Nat) : Prop := ((p = 234 ∨ p = 235 ∨ p = 236 ∨ p = 239 ∨ p = 242 ∨ p = 243) ∧ (i : Int) = D) ∨ ((p = 237 ∨ p = 238) ∧ 6 * D ≤ (i : Int) ∧ (i : Int) < 6 * D + 6)
theorem W8a_no : ∀ p i : Nat, W8a D p i → noR p := fun p i w => by
  unfold W8a at w
  unfold noR nRe nRw
  omega
theorem W8a_W180 : ∀ p i : Nat, W8a D p i → W180 D h e b p i := fun p i w => by
  rcases w with w | ⟨w1, w2⟩
  · exact Or.inl w
  · exact Or.inr (Or.inl ⟨by omega, w2⟩)
theorem W8a_lo {p i : Nat} (w : W8a D p i) : 234 ≤ p ∧ p ≤ 243 := by
  unfold W8a at w
  omega
theorem W181_8a {a3 : Int} (e : a3 = 6 * D) : ∀ p i, W181 237 238 a3 p i → W8a D p i := fun p i w => by
  unfold W181 at w
  exact Or.inr ⟨w.1, by omega, by omega⟩
set_option maxHeartbeats 4000000 in
theorem x_180 (hP : TXp K L n) (hT : RTk K L B n s) (h : RQr B n σ s) (hk : t_k K 3 σ = true) (hb : (s.1 30).toInt = b) (hM : (s.2.1 263 b.toNat).toInt = M) (hM0 : 0 ≤ M) (hT2 : (s.2.1 233 b.toNat).toInt = (T : Int)) (hT3 : T ≤ 24) (hh : 0 ≤ (s.1 42).toInt) : Par d 180 [.ref 213] s (fun v s' => v = none ∧ TQp K L B n (24 * b + (T : Int)) (s.1 42).toInt (84 * b + M) b T M s (p_ty K L (decide (24 ≤ T)) σ) σ.2 (tFo K L false σ) (tMe K L false σ) (tSt K L false σ) s') := by
  obtain ⟨k0, k1⟩ := tk_t hk
  cases d with
  | zero => exact Par_0
  | succ d =>
    refine pb_180 ?_
    unfold ub_180_0
    rw [hb]
    intro _ x1 hx1 hb2
    rw [hT2]
    intro _ x2 hx2 _
    generalize hD : 24 * b + (T : Int) = D
    have eD : x2.toInt = D := by omega
    have hD0 : 0 ≤ D := by omega
    refine ⟨fun w => ?_, fun w => ?_⟩
    · have hdec : decide (24 ≤ T) = false := decide_eq_false (by omega)
      rw [hdec, eD]
      intro _ x3 hx3 s4 hs4
      have Q4 : RQr B n (y_1 K L false σ) s4 := by
        have e : y_1 K L false σ = a_d σ := by
          unfold y_1 y_0
          rw [if_neg (fun w => by cases w.2), ek_y k0 k1]
          unfold a_d
          rw [k0]
        rw [e, hs4]
        exact RQ_ad hP h (by rw [k1]; decide) hx3
      have T4 : RTk K L B n s4 := by rw [hs4]; exact RTk_eq (s := s) rfl rfl rfl hT
      have F4 : GFx (s.1 26).toInt (W8a D) s s4 := by rw [hs4]; exact GFx_sf (by omega) (Int.le_refl _)
      have e426 : s4.1 26 = s.1 26 := by rw [hs4, sfr_1, if_neg (by decide)]
      have e442 : s4.1 42 = s.1 42 := by rw [hs4, sfr_1, if_neg (by decide)]
      refine Par.imp (x_170 hP T4 Q4) ?_
      rintro v6 s5 ⟨x7, rfl, p1, p2, p3⟩
      change RQr B n (y_2 K L false σ) s5 at p2
      refine ⟨x7, rfl, fun _ s8 hs8 _ s9 hs9 _ s10 hs10 => ?_⟩
      have e10 : s10.1 = s5.1 := by rw [hs10, hs9, hs8]; rfl
      have e542 : s5.1 42 = s.1 42 := by rw [p1.2 42 (by decide) (by decide), e442]
      have e526 : s5.1 26 = s.1 26 := by rw [p1.2 26 (by decide) (by decide), e426]
      rw [e10, e542]
      intro _ s11 hs11 _ s12 hs12
      have e12 : s12.1 = s5.1 := by rw [hs12, hs11, ← e10]; rfl
      have r12 : ∀ q j, s12.2.1 q j = if q = 243 ∧ j = D.toNat then 0 else if q = 242 ∧ j = D.toNat then s.1 42 else if q = 239 ∧ j = D.toNat then 0 else if q = 236 ∧ j = D.toNat then 0 else if q = 234 ∧ j = D.toNat then x7 else s5.2.1 q j := fun q j => by rw [hs12, sa_21, hs11, sa_21, hs10, sa_21, hs9, sa_21, hs8, sa_21]
      have F12 : GFx (s.1 26).toInt (W8a D) s s12 := by
        refine GFx_tr (Int.le_refl _) F4 (GFx_tr (Int.le_refl _) (GFx_78 p1 (by rw [e426]; exact Int.le_refl _)) ⟨fun q _ _ _ _ _ _ => by rw [e12], by rw [hs12, hs11, hs10, hs9, hs8]; rfl, fun p i _ _ w => ?_, by rw [e12, e526]; exact Int.le_refl _⟩)
        have nw : ∀ q : Nat, (q = 234 ∨ q = 235 ∨ q = 236 ∨ q = 239 ∨ q = 242 ∨ q = 243) → ¬ (p = q ∧ i = D.toNat) := fun q hq w2 => w (Or.inl ⟨by rw [w2.1]; exact hq, by omega⟩)
        rw [r12, if_neg (nw 243 (by decide)), if_neg (nw 242 (by decide)), if_neg (nw 239 (by decide)), if_neg (nw 236 (by decide)), if_neg (nw 234 (by decide))]
      have T12 : RTk K L B n s12 := GFx_tk W8a_no F12 hT
      have Q12 : RQr B n (y_2 K L false σ) s12 := RQr_1 (s := s5) (by rw [e12]) (by rw [e12]) p2
      have e1242 : s12.1 42 = s.1 42 := by rw [e12, e542]
      have e1226 : s12.1 26 = s.1 26 := by rw [e12, e526]
      -- the members' counts as the PARAMS stand
      have c12 : (s12.2.1 239 D.toNat).toInt = 0 ∧ (s12.2.1 243 D.toNat).toInt = 0 ∧ (s12.2.1 242 D.toNat).toInt = (s.1 42).toInt ∧ ((y_2 K L false σ).1 = 0 → (s12.2.1 234 D.toNat).toInt = B + (σ.2 + 1)) := by
        refine ⟨by rw [r12, if_neg (by omega), if_neg (by omega), if_pos ⟨rfl, rfl⟩]; rfl, by rw [r12, if_pos ⟨rfl, rfl⟩]; rfl, by rw [r12, if_neg (by omega), if_pos ⟨rfl, rfl⟩], fun hf => ?_⟩
        rw [r12, if_neg (by omega), if_neg (by omega), if_neg (by omega), if_neg (by omega), if_pos ⟨rfl, rfl⟩]
        have := (y2_0 hf).2.2.2.1
        rw [this] at p3
        exact p3 rfl
      -- from behind the PARAMS on
      have tail : ∀ u : yS, RTk K L B n u → RQr B n (y_3 K L false σ) u → GFx (s.1 26).toInt (W8a D) s u → u.1 42 = s.1 42 → (u.2.1 239 D.toNat).toInt = 0 ∧ (u.2.1 243 D.toNat).toInt = 0 ∧ (u.2.1 242 D.toNat).toInt = (s.1 42).toInt ∧ ((y_3 K L false σ).1 = 0 → (u.2.1 234 D.toNat).toInt = B + (σ.2 + 1) ∧ (u.2.1 236 D.toNat).toInt = ((tFo K L false σ).length : Int) ∧ (tFo K L false σ).length ≤ 6 ∧ YA K L B u 237 238 (6 * D) (s.1 26).toInt (u.1 26).toInt (tFo K L false σ)) → ub_180_74 (Par d) x2 u (fun v s' => v = none ∧ TQp K L B n D (s.1 42).toInt (84 * b + M) b T M s (p_ty K L false σ) σ.2 (tFo K L false σ) (tMe K L false σ) (tSt K L false σ) s') := by
        intro u u1 u2 u3 u4 ⟨u5, u6, u7, u8⟩
        have uN := u3.2.2.2
        -- the { and the loop
        have lp : ∀ z : yS, RTk K L B n z → RQr B n (y_4 K L false σ) z → GFx (u.1 26).toInt (fun p i => p = 235 ∧ (i : Int) = D) u z → z.1 42 = s.1 42 → (z.2.1 235 D.toNat).toInt = (if tSt K L false σ = true then 1 else 0) → ub_180_96 (Par d) x2 z (fun v s' => v = none ∧ TQp K L B n D (s.1 42).toInt (84 * b + M) b T M s (p_ty K L false σ) σ.2 (tFo K L false σ) (tMe K L false σ) (tSt K L false σ) s') := by
          intro z z1 z2 z3 z4 z5
          unfold ub_180_96
          refine Par.imp (x_167 hP z1 z2 (a1 := 123) (by decide)) ?_
          rintro v1 s1 ⟨rfl, m1, m2⟩
          rw [show (123 : Int32).toInt = 123 by decide] at m2
          change RQr B n (y_5 K L false σ) s1 at m2
          refine ⟨rfl, ?_⟩
          have zN := z3.2.2.2
          have no5 : ∀ p i : Nat, (p = 235 ∧ (i : Int) = D) → noR p := fun p i w => by
            unfold noR nRe nRw
            omega
          have G1 : GFx (u.1 26).toInt (fun p i => p = 235 ∧ (i : Int) = D) u s1 := GFx_tr (Int.le_refl _) z3 (GFx_78 m1 zN)
          have F1 : GFx (s.1 26).toInt (W8a D) s s1 := GFx_tr uN u3 (GFx_mo (fun p i w => Or.inl ⟨by omega, w.2⟩) G1)
          have rowF : ∀ p : Nat, (p = 262 ∨ p = 263 ∨ p = 233) → s1.2.1 p = s.2.1 p := fun p hp => funext fun i => GFx_rd F1 (by omega) (fun w => by have := W8a_lo w; omega)
          have e126 : s1.1 26 = z.1 26 := m1.2 26 (by decide) (by decide)
          have r235 : (s1.2.1 235 D.toNat).toInt = (if tSt K L false σ = true then 1 else 0) := by rw [m1.1]; exact z5
          have hb9 : e_k K L 125 (p_mb K (y_m K L false σ) 7 (y_5 K L false σ)) = p_ty K L false σ := rfl
          rw [← hb9]
          refine x_180l hP eD hD0 hh hb hM hM0 hT2 rfl ⟨y_5 K L false σ, RTk_78 m1 z1, m2, GFx_mo W8a_W180 F1, fun hf => by rw [pmb_f hf], r235, ⟨rowF 262 (by omega), rowF 263 (by omega), rowF 233 (by omega)⟩, fun hf => ?_⟩
          have hy4 : (y_4 K L false σ).1 = 0 := (ek_0 (show (e_k K L 123 (y_4 K L false σ)).1 = 0 from hf)).1
          have hy3 : (y_3 K L false σ).1 = 0 := by
            unfold y_4 at hy4
            by_cases hc : t_k K 4 (y_3 K L false σ) = true
            · exact (tk_t hc).1
            · rw [if_neg hc] at hy4
              exact (ek_0 hy4).1
          obtain ⟨j1, j2, j3, j4⟩ := u8 hy3
          have rk : ∀ q : Nat, 233 ≤ q → ¬ q = 235 → ∀ j, s1.2.1 q j = u.2.1 q j := fun q hq hq2 j => GFx_rd G1 hq (fun w => hq2 w.1)
          have hst : (if tSt K L false σ = true then m_s K L else m_i K L) = y_m K L false σ := rfl
          rw [hst]
          refine ⟨⟨by rw [rk 234 (by omega) (by omega)]; exact j1, by rw [rk 236 (by omega) (by omega)]; exact j2, j3, YA_wi (Int.le_refl _) G1.2.2.2 (YA_fr no5 G1 (Int.le_refl _) (noR_t (by omega)) (noR_t (by omega)) (fun i _ => ⟨by omega, by omega⟩) j4), r235, by rw [rk 242 (by omega) (by omega)]; exact u7⟩, [], ⟨by decide, fun _ => ⟨by rw [rk 239 (by omega) (by omega)]; exact u5, by rw [rk 243 (by omega) (by omega)]; exact u6, YA_nil⟩, fun _ => ⟨by rw [rk 239 (by omega) (by omega)]; exact u5, by rw [rk 243 (by omega) (by omega)]; exact u6, fun i q hq => by cases hq⟩⟩, ?_, rfl, rfl⟩
          rw [m1.2 42 (by decide) (by decide), z4]
          have : (([] : List Int).length : Int) = 0 := rfl
          rw [this]
          by_cases hc : tSt K L false σ = true
          · rw [if_pos hc]; omega
          · rw [if_neg hc]; omega
        unfold ub_180_74
        refine Par.imp (x_165 u1 u2 (a1 := 1) (by decide) (by decide)) ?_
        rintro v2 s1 ⟨rfl, x3, rfl, hr⟩
        rw [show (1 : Int32).toInt + 3 = 4 by decide] at hr
        refine ⟨x3, rfl, fun _ s4' hs4' => ?_⟩
        rw [eD] at hs4' ⊢
        have e4' : s4'.1 = s1.1 := by rw [hs4']; rfl
        have r4' : (s4'.2.1 235 D.toNat) = x3 := by rw [hs4', sa_21, if_pos ⟨rfl, rfl⟩]
        have G4' : GFx (s1.1 26).toInt (fun p i => p = 235 ∧ (i : Int) = D) s1 s4' := by
          rw [hs4']
          exact GFx_sa ⟨rfl, by omega⟩ (Int.le_refl _)
        have T4' : RTk K L B n s4' := by
          rw [hs4']
          exact RTk_sa (by decide) u1
        have Q4' : RQr B n (y_3 K L false σ) s4' := RQr_1 (s := s1) (by rw [e4']) (by rw [e4']) u2
        rw [r4']
        refine fun _ => ⟨fun w3 => ?_, fun w3 => ?_⟩
        · rcases hr with ⟨j1, -⟩ | ⟨j1, j2⟩
          · omega
          refine Par.imp (x_169 hP T4' Q4' (a1 := 2) (by decide) (by decide)) ?_
          rintro v6 s6 ⟨rfl, m1, m2⟩
          rw [show (2 : Int32).toInt + 3 = 5 by decide] at m2
          refine ⟨rfl, lp s6 (RTk_78 m1 T4') ?_ (GFx_tr (Int.le_refl _) G4' (GFx_78 m1 (by rw [e4']; exact Int.le_refl _))) (by rw [m1.2 42 (by decide) (by decide), e4', u4]) ?_⟩
          · unfold y_4
            rw [if_neg (by rw [j2]; decide)]
            exact m2
          · rw [m1.1, r4', j1]
            unfold tSt
            rw [j2, if_neg (by decide)]
        · rcases hr with ⟨j1, j2⟩ | ⟨j1, -⟩
          · intro _ x8 hx8 s9' hs9'
            refine lp s9' ?_ ?_ ?_ ?_ ?_
            · rw [hs9']; exact RTk_eq (s := s4') rfl rfl rfl T4'
            · unfold y_4
              rw [if_pos j2, hs9']
              exact RQ_ad hP Q4' (by rw [(tk_t j2).2]; decide) hx8
            · rw [hs9']
              exact GFx_tr (Int.le_refl _) G4' (GFx_sf (by omega) (by rw [e4']; exact Int.le_refl _))
            · rw [hs9', sfr_1, if_neg (by decide), e4', u4]
            · rw [hs9', sfr_2, r4', j1]
              unfold tSt
              rw [j2, if_pos rfl]
          · omega
      refine Par.imp (x_164 T12 Q12 (a1 := 91) (by decide)) ?_
      rintro v14 s13 ⟨rfl, x15, rfl, hr⟩
      rw [show (91 : Int32).toInt = 91 by decide] at hr
      refine ⟨x15, rfl, fun w15 => ?_, fun w15 _ x16 hx16 => ?_⟩
      · rcases hr with ⟨j1, -⟩ | ⟨-, j2⟩
        · omega
        have ey : y_3 K L false σ = y_2 K L false σ := by
          unfold y_3
          rw [if_neg (by rw [j2]; decide)]
        have ef : tFo K L false σ = [] := by
          unfold tFo
          rw [if_neg (by rw [j2]; decide)]
        refine tail s13 T12 (by rw [ey]; exact Q12) F12 e1242 ⟨c12.1, c12.2.1, c12.2.2.1, fun hf => ?_⟩
        rw [ey] at hf
        rw [ef]
        exact ⟨c12.2.2.2 hf, by rw [r12, if_neg (by omega), if_neg (by omega), if_neg (by omega), if_pos ⟨rfl, rfl⟩]; rfl, by decide, YA_nil⟩
      · rcases hr with ⟨-, j2⟩ | ⟨j1, -⟩
        · have ey : y_3 K L false σ = p_nm K L 93 (a_d (y_2 K L false σ)) := by
            unfold y_3
            rw [if_pos j2]
          have ef : tFo K L false σ = l_nm K L (a_d (y_2 K L false σ)) := by
            unfold tFo
            rw [if_pos j2]
          refine Par.imp (x_181 hP T12 Q12 j2 (Or.inl ⟨rfl, rfl⟩) (a3 := x16) (by omega)) ?_
          rintro v18 s17 ⟨x19, rfl, m1, m2, m3, m4, m5⟩
          rw [e1226] at m3 m5
          refine ⟨x19, rfl, fun _ s20 hs20 => ?_⟩
          have e20 : s20.1 = s17.1 := by rw [hs20]; rfl
          have r20 : ∀ q j, s20.2.1 q j = if q = 236 ∧ j = D.toNat then x19 else s17.2.1 q j := fun q j => by rw [hs20, sa_21]
          have G20 : GFx (s17.1 26).toInt (fun p i => p = 236 ∧ (i : Int) = D) s17 s20 := by
            rw [hs20]
            exact GFx_sa ⟨rfl, by omega⟩ (Int.le_refl _)
          have no20 : ∀ p i : Nat, (p = 236 ∧ (i : Int) = D) → noR p := fun p i w => by
            unfold noR nRe nRw
            omega
          have hN17 := m3.2.2.2
          have rk : ∀ q : Nat, (q = 234 ∨ q = 239 ∨ q = 242 ∨ q = 243) → ∀ j, s20.2.1 q j = s13.2.1 q j := fun q hq j => by
            rw [r20, if_neg (by omega)]
            exact GFx_rd m3 (by omega) (fun w => by unfold W181 at w; omega)
          refine tail s20 (GFx_tk no20 G20 m1) (by rw [ey]; exact RQr_1 (s := s17) (by rw [e20]) (by rw [e20]) m2) (GFx_tr hN17 (GFx_tr (Int.le_refl _) F12 (GFx_mo (W181_8a hx16) m3)) (GFx_mo (fun p i w => Or.inl ⟨by omega, w.2⟩) G20)) (by rw [e20, m4, e1242]) ⟨by rw [rk 239 (by omega)]; exact c12.1, by rw [rk 243 (by omega)]; exact c12.2.1, by rw [rk 242 (by omega)]; exact c12.2.2.1, fun hf => ?_⟩
          rw [ey] at hf
          obtain ⟨j3, j4, j5⟩ := m5 hf
          rw [ef]
          refine ⟨by rw [rk 234 (by omega)]; exact c12.2.2.2 (tk_t j2).1, by rw [r20, if_pos ⟨rfl, rfl⟩]; exact j3, j4, ?_⟩
          rw [← hx16, e20]
          exact YA_fr no20 G20 (Int.le_refl _) (noR_t (by omega)) (noR_t (by omega)) (fun i _ => ⟨by omega, by omega⟩) j5
        · omega
    · have hdec : decide (24 ≤ T) = true := decide_eq_true (by omega)
      rw [hdec]
      refine Par.imp (x_163h hT h (w := 5) (by decide) (by decide) (fun _ => rfl)) ?_
      rintro v7 s7 ⟨rfl, j1, j2, j3⟩
      rw [if_pos k0] at j3
      refine ⟨rfl, rfl, RTk_78 j1 hT, by rw [pty_t k0 k1]; exact j3, GFx_78 j1 (Int.le_refl _), fun hf => ?_⟩
      rw [pty_t k0 k1] at hf
      dsimp only at hf
      omega
end RTW
