/-! ===== readType: the loop ===== -/
/-- what readType leaves: R where it stands, T types and M declarations stood -/
def TQp (K L : Int → Int) (B n D h e b T M : Int) (s : yS) (R : RSt) (t0 : Int) (LF LM : List Int) (st : Bool) (s' : yS) : Prop := RTk K L B n s' ∧ RQr B n R s' ∧ GFx (s.1 26).toInt (W180 D h e b) s s' ∧ (R.1 = 0 → TYb K L B s' D h (s.1 26).toInt (s'.1 26).toInt t0 LF st ∧ TYm K L B s' D h (s.1 26).toInt (s'.1 26).toInt st LM ∧ (s'.1 42).toInt = h + (if st = true then 0 else (LM.length : Int)) ∧ (s'.2.1 262 e.toNat).toInt = T ∧ (s'.2.1 263 b.toNat).toInt = M + 1 ∧ (s'.2.1 233 b.toNat).toInt = T + 1)
section RTL
variable {d : Nat} {K L : Int → Int} {B n N N' x y : Int} {s s' s'' t : yS} {σ ρ τ : RSt} {a1 v : Int32} {f D h e b T M : Int} {LF LM Ls : List Int} {W : Nat → Nat → Prop} {st : Bool} {R : RSt}
set_option maxHeartbeats 4000000 in
theorem x_180l (hP : TXp K L n) (hD : a1.toInt = D) (h0 : 0 ≤ D) (hh : 0 ≤ h) (hb : (s.1 30).toInt = b) (hM : (s.2.1 263 b.toNat).toInt = M) (hM0 : 0 ≤ M) (hT : (s.2.1 233 b.toNat).toInt = T) (he : e = 84 * b + M) (hL : TLp K L B n D h e b s σ R LF LM st t) : ubl_180_99 (Par d) a1 t (fun v s' => v = none ∧ TQp K L B n D h e b T M s (e_k K L 125 R) σ.2 LF LM st s') := by
  refine ⟨fun c1 u => c1 = a1 ∧ TLp K L B n D h e b s σ R LF LM st u, ⟨rfl, hL⟩, ?_⟩
  rintro c1 u ⟨rfl, τ, t1, t2, t3, t5, t8, ⟨t62, t63, t33⟩, t6⟩
  have hN := t3.2.2.2
  have u30 : u.1 30 = s.1 30 := t3.1 30 (by decide) (by decide) (by decide) (by decide) (by decide) (by decide)
  have fin : (τ.1 = 0 → K τ.2 = 125) → ub_180_145 (Par d) c1 u (fun v s' => v = none ∧ TQp K L B n D h e b T M s (e_k K L 125 R) σ.2 LF LM st s') := by
    intro hk
    have hR : R = τ := by
      by_cases hz : τ.1 = 0
      · obtain ⟨-, L0, g1, -, g3, -⟩ := t6 hz
        rw [← g3, show 7 - L0.length = (6 - L0.length) + 1 by have := g1.1; omega, pmb_s, if_neg (fun w => w.2 (hk hz))]
      · exact t5 hz
    unfold ub_180_145
    refine Par.imp (x_167 hP t1 t2 (a1 := 125) (by decide)) ?_
    rintro v1 s1 ⟨rfl, p1, p2⟩
    rw [show (125 : Int32).toInt = 125 by decide] at p2
    have e30 : (s1.1 30).toInt = b := by rw [p1.2 30 (by decide) (by decide), u30, hb]
    have e26 : s1.1 26 = u.1 26 := p1.2 26 (by decide) (by decide)
    refine ⟨rfl, ?_⟩
    rw [e30]
    intro _ x3 hx3 hb2
    have m1 : (s1.2.1 263 b.toNat).toInt = M := by rw [p1.1, t63, hM]
    have m2 : (s1.2.1 233 b.toNat).toInt = T := by rw [p1.1, t33, hT]
    rw [m1]
    intro _ x4 hx4 _ _ s5 hs5
    have ex4 : x4.toInt.toNat = e.toNat := by rw [he]; omega
    rw [ex4] at hs5
    have e5 : s5.1 = s1.1 := by rw [hs5]; rfl
    have r5 : ∀ q j, s5.2.1 q j = if q = 262 ∧ j = e.toNat then s1.2.1 233 b.toNat else s1.2.1 q j := fun q j => by rw [hs5, sa_21]
    rw [e5, e30]
    intro _
    rw [r5, if_neg (by omega), m1]
    intro _ x6 hx6 _ s7 hs7
    have e7 : s7.1 = s1.1 := by rw [hs7, ← e5]; rfl
    have r7 : ∀ q j, s7.2.1 q j = if q = 263 ∧ j = b.toNat then x6 else if q = 262 ∧ j = e.toNat then s1.2.1 233 b.toNat else s1.2.1 q j := fun q j => by rw [hs7, sa_21, r5]
    rw [e7, e30]
    intro _
    rw [r7, if_neg (by omega), if_neg (by omega), m2]
    intro _ x8 hx8 _ s9 hs9
    have e9 : s9.1 = s1.1 := by rw [hs9, ← e7]; rfl
    have r9 : ∀ q j, s9.2.1 q j = if q = 233 ∧ j = b.toNat then x8 else if q = 263 ∧ j = b.toNat then x6 else if q = 262 ∧ j = e.toNat then s1.2.1 233 b.toNat else s1.2.1 q j := fun q j => by rw [hs9, sa_21, r7]
    have he0 : 0 ≤ e := by omega
    have G9 : GFx (u.1 26).toInt (W8e e b) u s9 := by
      refine GFx_tr (Int.le_refl _) (GFx_78 p1 (Int.le_refl _)) ⟨fun q _ _ _ _ _ _ => by rw [e9], by rw [hs9, hs7, hs5]; rfl, fun p i _ _ w => ?_, by rw [e9, e26]; exact Int.le_refl _⟩
      unfold W8e at w
      rw [r9, if_neg (fun q => w (by omega)), if_neg (fun q => w (by omega)), if_neg (fun q => w (by omega))]
    refine ⟨rfl, GFx_tk W8e_no G9 t1, RQr_1 (s := s1) (by rw [e9]) (by rw [e9]) (by rw [hR]; exact p2), GFx_tr hN t3 (GFx_mo W8e_W180 G9), fun hf => ?_⟩
    rw [hR] at hf
    have hz := (ek_0 hf).1
    obtain ⟨g0, L0, g1, g2, g3, g4⟩ := t6 hz
    have eL : LM = L0 := by
      rw [g4, show 7 - L0.length = (6 - L0.length) + 1 by have := g1.1; omega, lmb_s, if_neg (fun w => w.2 (hk hz)), List.append_nil]
    have e26' : s9.1 26 = u.1 26 := by rw [e9, e26]
    rw [e26', eL]
    refine ⟨TYb_fr W8e_no h0 G9 (Int.le_refl _) (fun p i w q => by have := W8e_lo q; omega) g0, TYm_fr W8e_no h0 hh G9 (Int.le_refl _) (fun p i w q => by have := W8e_lo q; omega) (fun _ k _ _ p i w q => by have := W8e_lo q; have := W183_lo w; omega) g1, ?_, ?_, ?_, ?_⟩
    · rw [e9, p1.2 42 (by decide) (by decide)]
      exact g2
    · rw [r9, if_neg (by omega), if_neg (by omega), if_pos ⟨rfl, rfl⟩, m2]
    · rw [r9, if_neg (by omega), if_pos ⟨rfl, rfl⟩, hx6]
    · rw [r9, if_pos ⟨rfl, rfl⟩, hx8]
  unfold ub_180_99
  refine ⟨fun w => fin (fun q => absurd q (by rw [← t2.1]; exact w)), fun w => ?_⟩
  have hz : τ.1 = 0 := by rw [← t2.1]; exact w
  refine Par.imp (x_164 t1 t2 (a1 := 125) (by decide)) ?_
  rintro v2 s1 ⟨rfl, x3, rfl, hr⟩
  rw [show (125 : Int32).toInt = 125 by decide] at hr
  refine ⟨x3, rfl, fun w3 => ?_, fun w3 => ?_⟩
  · rcases hr with ⟨-, z1⟩ | ⟨z1, -⟩
    · exact fin (fun _ => (tk_t z1).2)
    · omega
  rcases hr with ⟨z1, -⟩ | ⟨-, z1⟩
  · omega
  have hk : ¬ K τ.2 = 125 := fun q => by
    rw [show t_k K 125 τ = true from decide_eq_true ⟨hz, q⟩] at z1
    cases z1
  obtain ⟨g0, L0, g1, g2, g3, g4⟩ := t6 hz
  rw [hD]
  refine fun _ => ⟨fun w4 => ?_, fun w4 => ?_⟩
  · -- a HEAD
    rw [t8] at w4
    have hst : st = false := by
      cases st with
      | false => rfl
      | true => exact absurd w4 (by decide)
    subst hst
    rw [if_neg (by decide)] at g2 g3 g4
    obtain ⟨g11, -, g12⟩ := g1
    obtain ⟨g13, g14, g15⟩ := g12 rfl
    obtain ⟨st1, st2⟩ := mb_st (fun _ => mi_t) g11 hz hk g3 g4
    rw [g14]
    have nxt : ∀ (u' : yS) (ρ : RSt), R78 s1 u' → RQr B n ρ u' → 0 ≤ ρ.1 → e_k K L 1 ρ = e_f K L (decide (L0.length = 6)) τ → ub_180_131 (Par d) (fun c1' u => c1' = c1 ∧ TLp K L B n D h e b s σ R LF LM false u) c1 u' (fun v s' => v = none ∧ TQp K L B n D h e b T M s (e_k K L 125 R) σ.2 LF LM false s') := by
      intro u' ρ r1 r2 r3 r4
      unfold ub_180_131
      refine Par.imp (x_183 hP (RTk_78 r1 t1) r2 r3) ?_
      rintro v5 s5 ⟨rfl, q1, q2, q3, q4⟩
      have e26 : u'.1 26 = s1.1 26 := r1.2 26 (by decide) (by decide)
      have e42 : (u'.1 42).toInt = h + (L0.length : Int) := by rw [r1.2 42 (by decide) (by decide)]; exact g2
      rw [e26] at q3 q4
      rw [e42] at q3 q4
      refine ⟨rfl, ?_⟩
      refine Par.imp (x_167 hP q1 q2 (a1 := 59) (by decide)) ?_
      rintro v6 s6 ⟨rfl, k1, k2⟩
      rw [show (59 : Int32).toInt = 59 by decide, r4] at k2
      change RQr B n (m_i K L (decide (L0.length = 6)) τ) s6 at k2
      rw [r4] at q4
      have k26 : s6.1 26 = s5.1 26 := k1.2 26 (by decide) (by decide)
      have q26 := q3.2.2.2
      have F6 : GFx (s1.1 26).toInt (W183 (h + (L0.length : Int))) s1 s6 := GFx_tr (Int.le_refl _) (GFx_tr (Int.le_refl _) (GFx_78 r1 (Int.le_refl _)) q3) (GFx_78 k1 q26)
      have r243 : (s6.2.1 243 D.toNat).toInt = (L0.length : Int) := by
        rw [GFx_rd F6 (by omega) (fun w => by have := W183_lo w; omega)]
        exact g14
      refine ⟨rfl, ?_⟩
      rw [hD, r243]
      intro _ _ x7 hx7 _ s8 hs8
      have e8 : s8.1 = s6.1 := by rw [hs8]; rfl
      have r8 : ∀ q j, s8.2.1 q j = if q = 243 ∧ j = D.toNat then x7 else s6.2.1 q j := fun q j => by rw [hs8, sa_21]
      have G8 : GFx (s6.1 26).toInt (fun p i => p = 243 ∧ (i : Int) = D) s6 s8 := by
        rw [hs8]
        exact GFx_sa ⟨rfl, by omega⟩ (Int.le_refl _)
      have no8 : ∀ p i : Nat, (p = 243 ∧ (i : Int) = D) → noR p := fun p i w => by
        unfold noR nRe nRw
        omega
      have h26 : (s1.1 26).toInt ≤ (s6.1 26).toInt := F6.2.2.2
      have F8 : GFx (s1.1 26).toInt (W8h D (h + (L0.length : Int))) s1 s8 := GFx_tr h26 (GFx_mo (fun _ _ w => Or.inl w) F6) (GFx_mo (fun _ _ w => Or.inr w) G8)
      have rowF : ∀ p : Nat, (p = 262 ∨ p = 263 ∨ p = 233 ∨ p = 235) → s8.2.1 p = s1.2.1 p := fun p hp => funext fun i => GFx_rd F8 (by omega) (fun w => by have := W8h_lo w; omega)
      refine ⟨rfl, m_i K L (decide (L0.length = 6)) τ, GFx_tk W8h_no F8 t1, RQr_1 (by rw [e8]) (by rw [e8]) k2, GFx_tr hN t3 (GFx_mo (W8h_W180 (by omega)) F8), st1, by rw [rowF 235 (by omega)]; exact t8, ⟨by rw [rowF 262 (by omega)]; exact t62, by rw [rowF 263 (by omega)]; exact t63, by rw [rowF 233 (by omega)]; exact t33⟩, fun hf => ?_⟩
      obtain ⟨z2, z3, z4⟩ := st2 hf
      have hf' : (p_hd K L (e_f K L (decide (L0.length = 6)) τ)).1 = 0 := (ek_0 hf).1
      obtain ⟨w1, w2, w3⟩ := q4 hf'
      have hρ2 : ρ.2 = τ.2 := by
        have a1 := hd_fw hf'
        have a2 := ef_0 a1.1
        have a3 : (e_k K L 1 ρ).1 = 0 := by rw [r4]; exact a1.1
        have a4 := (ek_0 a3).2.2
        rw [r4, a2.2.2.2] at a4
        have := congrArg Prod.snd a4
        dsimp only at this
        omega
      rw [hρ2] at w3
      have e826 : s8.1 26 = s6.1 26 := by rw [e8]
      refine ⟨?_, L0 ++ [τ.2], ⟨by rw [List.length_append]; simp only [List.length_cons, List.length_nil]; omega, fun w => absurd w (by decide), fun _ => ⟨?_, ?_, fun i q hq => ?_⟩⟩, ?_, ?_, ?_⟩
      · rw [e826]
        exact TYb_wi (Int.le_refl _) h26 (TYb_fr W8h_no h0 F8 (Int.le_refl _) (fun p i w q => by have := W8h_lo q; omega) g0)
      · rw [GFx_rd F8 (by omega) (fun w => by have := W8h_lo w; omega)]
        exact g13
      · rw [r8, if_pos ⟨rfl, rfl⟩, hx7, List.length_append]
        simp only [List.length_cons, List.length_nil]
        omega
      · rw [e826]
        by_cases hi : i < L0.length
        · rw [List.getElem?_append_left hi] at hq
          exact HDr_wi (Int.le_refl _) h26 (HDr_fr W8h_no (by omega) F8 (Int.le_refl _) (fun p j w q => by
            rcases q with q | q
            · exact W183_ne (by omega) w q
            · have := W183_lo w
              omega) (g15 i q hq))
        · rw [List.getElem?_append_right (by omega)] at hq
          have e0 : i - L0.length = 0 := by
            rcases Nat.eq_zero_or_pos (i - L0.length) with hx | hx
            · exact hx
            · rw [List.getElem?_eq_none (by simp only [List.length_cons, List.length_nil]; omega)] at hq
              cases hq
          rw [e0] at hq
          have eq1 : τ.2 = q := by simpa using hq
          rw [← eq1, show i = L0.length by omega]
          have w4 : HDr K L B s6 (h + (L0.length : Int)) (s1.1 26).toInt (s5.1 26).toInt τ.2 := HDr_fr (W := fun _ _ => False) (fun _ _ w => absurd w id) w2 (GFx_78 k1 (Int.le_refl _)) (Int.le_refl _) (fun _ _ _ => id) w3
          rw [k26]
          exact HDr_wi hN (Int.le_refl _) (HDr_fr no8 w2 G8 (by rw [k26]; exact Int.le_refl _) (fun p j w q => by have := W183_lo w; omega) w4)
      · rw [if_neg (by decide), e8, k1.2 42 (by decide) (by decide), w1, List.length_append]
        simp only [List.length_cons, List.length_nil]
        omega
      · rw [if_neg (by decide), List.length_append]
        exact z3
      · rw [if_neg (by decide), List.length_append]
        exact z4
    refine fun _ => ⟨fun h6 => ?_, fun h6 => ?_⟩
    · refine nxt s1 τ R78_rf t2 (by omega) ?_
      rw [decide_eq_false (by omega), ef_e]
    · have hd : decide (L0.length = 6) = true := decide_eq_true (by omega)
      have hL0 : 0 ≤ L τ.2 := (hP.2.2 _ (t2.2 hz).2.1 (t2.2 hz).2.2).1
      refine Par.imp (x_166 t1 t2) ?_
      rintro v5 s4 ⟨rfl, x6, rfl, hr⟩
      refine ⟨x6, rfl, fun w6 => ?_, fun w6 => ?_⟩
      · rcases hr with ⟨z2, -⟩ | ⟨-, z2⟩
        · omega
        unfold ub_180_128
        refine Par.imp (x_163h t1 t2 (w := 1) (by decide) (by decide) (fun _ => rfl)) ?_
        rintro v7 s7 ⟨rfl, j1, j2, j3⟩
        rw [if_pos hz] at j3
        refine ⟨rfl, nxt s7 _ j1 j3 (by dsimp only; omega) ?_⟩
        rw [ek_f (by dsimp only; omega), hd]
        unfold e_f
        rw [if_pos hz, if_neg (fun q => by rw [show t_k K 1 τ = true from decide_eq_true ⟨hz, q⟩] at z2; cases z2)]
      · rcases hr with ⟨-, z2⟩ | ⟨z2, -⟩
        · unfold ub_180_128
          refine Par.imp (x_163h t1 t2 (w := 5) (by decide) (by decide) (fun _ => rfl)) ?_
          rintro v7 s7 ⟨rfl, j1, j2, j3⟩
          rw [if_pos hz] at j3
          refine ⟨rfl, nxt s7 _ j1 j3 (by dsimp only; omega) ?_⟩
          rw [ek_f (by dsimp only; omega), hd]
          unfold e_f
          rw [if_pos hz, if_pos (tk_t z2).2, if_pos rfl]
        · omega
  · -- a field
    rw [t8] at w4
    have hst : st = true := by
      cases st with
      | true => rfl
      | false => exact absurd (show (if false = true then (1 : Int) else 0) = 0 from rfl) w4
    subst hst
    rw [if_pos rfl] at g2 g3 g4
    obtain ⟨g11, g12, -⟩ := g1
    obtain ⟨g13, g14, g15⟩ := g12 rfl
    obtain ⟨st1, st2⟩ := mb_st (fun _ => ms_t) g11 hz hk g3 g4
    subst hD
    refine Par.imp (x_182 hP t1 t2 h0 g13 g11 hN g15) ?_
    rintro v5 s5 ⟨rfl, q1, q2, q3, q4, q5⟩
    have rowF : ∀ p : Nat, (p = 262 ∨ p = 263 ∨ p = 233 ∨ p = 235) → s5.2.1 p = s1.2.1 p := fun p hp => funext fun i => GFx_rd q3 (by omega) (fun w => by have := W182_lo w; omega)
    refine ⟨rfl, rfl, m_s K L (decide (L0.length = 6)) τ, q1, q2, GFx_tr hN t3 (GFx_mo (fun _ _ => W182_W180) q3), st1, by rw [rowF 235 (by omega)]; exact t8, ⟨by rw [rowF 262 (by omega)]; exact t62, by rw [rowF 263 (by omega)]; exact t63, by rw [rowF 233 (by omega)]; exact t33⟩, fun hf => ?_⟩
    obtain ⟨z2, z3, z4⟩ := st2 hf
    obtain ⟨w1, w2, w3⟩ := q5 hf
    have q26 := q3.2.2.2
    refine ⟨TYb_wi (Int.le_refl _) q26 (TYb_fr W182_no h0 q3 (Int.le_refl _) (fun p i w q => by have := W182_lo q; omega) g0), L0 ++ [τ.2], ⟨by rw [List.length_append]; simp only [List.length_cons, List.length_nil]; omega, fun _ => ⟨w2, ?_, w3⟩, fun w => absurd w (by decide)⟩, ?_, ?_, ?_⟩
    · rw [GFx_rd q3 (by omega) (fun w => by have := W182_lo w; omega)]
      exact g14
    · rw [q4, if_pos rfl]
      exact g2
    · rw [if_pos rfl, List.length_append]
      exact z3
    · rw [if_pos rfl, List.length_append]
      exact z4
end RTL
