/-! ===== readHead, whole ===== -/
section RHW
variable {d : Nat} {K L : Int → Int} {B n N N' x y : Int} {s s' s'' t : yS} {σ ρ τ : RSt} {a1 v : Int32} {f h : Int} {Ls : List Int} {W : Nat → Nat → Prop}
theorem W181_183 {a3 : Int} (e : a3 = 6 * h) : ∀ p i, W181 246 247 a3 p i → W183 h p i := fun p i w => by
  unfold W181 at w
  unfold W183
  omega
set_option maxHeartbeats 4000000 in
theorem x_183 (hP : TXp K L n) (hT : RTk K L B n s) (h : RQr B n σ s) (h0 : 0 ≤ σ.1) : Par d 183 [.ref 213] s (fun v s' => v = none ∧ HQp K L B n (s.1 42).toInt s σ s') := by
  cases d with
  | zero => exact Par_0
  | succ d =>
    refine pb_183 ?_
    unfold ub_183_0
    refine ⟨fun w => ?_, fun w => ?_⟩
    · have hz : σ.1 = 0 := by
        have := h.1
        omega
      generalize hh : (s.1 42).toInt = k
      generalize hb1 : s.1 42 = b1 at hh
      refine Par.imp (x_170 hP hT h) ?_
      rintro v2 s1 ⟨x3, rfl, p1, p2, p3⟩
      replace p3 := p3 hz
      have e26 : s1.1 26 = s.1 26 := p1.2 26 (by decide) (by decide)
      have e42 : s1.1 42 = b1 := by rw [p1.2 42 (by decide) (by decide)]; exact hb1
      refine ⟨x3, rfl, fun hk s4 hs4 _ s5 hs5 _ s6 hs6 => ?_⟩
      have r6 : ∀ q j, s6.2.1 q j = if q = 248 ∧ j = k.toNat then 0 else if q = 245 ∧ j = k.toNat then 0 else if q = 244 ∧ j = k.toNat then x3 else s1.2.1 q j := fun q j => by rw [hs6, sa_21, hs5, sa_21, hs4, sa_21]
      have e6 : s6.1 = s1.1 := by rw [hs6, hs5, hs4]; rfl
      have F6 : GFx (s.1 26).toInt (W183 k) s s6 := by
        refine GFx_tr (Int.le_refl _) (GFx_78 p1 (Int.le_refl _)) ⟨fun q _ _ _ _ _ _ => by rw [e6], by rw [hs6, hs5, hs4]; rfl, fun p i _ _ w => ?_, by rw [e6, e26]; exact Int.le_refl _⟩
        unfold W183 at w
        rw [r6, if_neg (by omega), if_neg (by omega), if_neg (by omega)]
      have T6 : RTk K L B n s6 := GFx_tk W183_no F6 hT
      have Q6 : RQr B n (e_k K L 1 σ) s6 := RQr_1 (by rw [e6]) (by rw [e6]) p2
      -- from ( on: t stands behind the PARAMS
      have tail : ∀ u : yS, RTk K L B n u → RQr B n (h_1 K L (e_k K L 1 σ)) u → GFx (s.1 26).toInt (W183 k) s u → u.1 42 = s.1 42 → ((h_1 K L (e_k K L 1 σ)).1 = 0 → HDb K L B u k (s.1 26).toInt (u.1 26).toInt σ.2 (h_f K L (e_k K L 1 σ)) ∧ (u.2.1 248 k.toNat).toInt = 0) → ub_183_40 (Par d) b1 u (fun v s' => v = none ∧ HQp K L B n k s σ s') := by
        intro u u1 u2 u3 u4 u5
        have uN := u3.2.2.2
        unfold ub_183_40
        refine Par.imp (x_167 hP u1 u2 (a1 := 40) (by decide)) ?_
        rintro v7 s7 ⟨rfl, q1, q2⟩
        rw [show (40 : Int32).toInt = 40 by decide] at q2
        change RQr B n (h_2 K L (e_k K L 1 σ)) s7 at q2
        have q26 : s7.1 26 = u.1 26 := q1.2 26 (by decide) (by decide)
        refine ⟨rfl, ?_⟩
        refine Par.imp (x_164 (RTk_78 q1 u1) q2 (a1 := 41) (by decide)) ?_
        rintro v8 s8 ⟨rfl, x9, rfl, hr⟩
        rw [show (41 : Int32).toInt = 41 by decide] at hr
        have G8 : GFx (s.1 26).toInt (W183 k) s s8 := GFx_tr (Int.le_refl _) u3 (GFx_78 q1 uN)
        have e8 : s8.1 42 = s.1 42 := by rw [q1.2 42 (by decide) (by decide)]; exact u4
        have d8 : (h_2 K L (e_k K L 1 σ)).1 = 0 → HDb K L B s8 k (s.1 26).toInt (s8.1 26).toInt σ.2 (h_f K L (e_k K L 1 σ)) ∧ HDv K L B s8 k (s.1 26).toInt (s8.1 26).toInt [] := fun hf => by
          unfold h_2 at hf
          obtain ⟨g1, g2⟩ := u5 (ek_0 hf).1
          rw [q26]
          exact ⟨HDb_78 q1 g1, by rw [q1.1, g2]; rfl, by decide, YA_nil⟩
        refine ⟨x9, rfl, fun w9 => ?_, fun w9 => ?_⟩
        · rcases hr with ⟨z1, z2⟩ | ⟨z1, -⟩
          · unfold ub_183_50
            refine x_183l hP hh hk.1 (by rw [hb1]; exact hh) ⟨_, RTk_78 q1 u1, q2, G8, e8, fun hf => ?_, fun hf => ⟨(d8 hf).1, [], (d8 hf).2, Or.inl ⟨by decide, ?_, ?_⟩⟩⟩
            · exact absurd (tk_t z2).1 hf
            · unfold h_3
              rw [if_pos z2, ek_y (tk_t z2).1 (tk_t z2).2]
              unfold a_d
              rw [(tk_t z2).1]
            · unfold h_v
              rw [if_pos z2]
          · omega
        · rcases hr with ⟨z1, -⟩ | ⟨z1, z2⟩
          · omega
          · unfold ub_183_50
            refine x_183l hP hh hk.1 (by rw [hb1]; exact hh) ⟨_, RTk_78 q1 u1, q2, G8, e8, fun hf => ?_, fun hf => ⟨(d8 hf).1, [], (d8 hf).2, Or.inr ⟨by decide, ?_, ?_⟩⟩⟩
            · unfold h_3
              rw [if_neg (by rw [z2]; decide), nm_f hf]
            · unfold h_3
              rw [if_neg (by rw [z2]; decide)]
              rfl
            · unfold h_v
              rw [if_neg (by rw [z2]; decide)]
              rfl
      refine Par.imp (x_164 T6 Q6 (a1 := 91) (by decide)) ?_
      rintro v8 s8 ⟨rfl, x9, rfl, hr⟩
      rw [show (91 : Int32).toInt = 91 by decide] at hr
      have b244 : ∀ i, (s8.2.1 244 k.toNat).toInt = B + σ.2 ∧ (s8.2.1 248 i).toInt = (s8.2.1 248 i).toInt := fun i => ⟨by rw [r6, if_neg (by omega), if_neg (by omega), if_pos ⟨rfl, rfl⟩, p3], rfl⟩
      refine ⟨x9, rfl, fun w9 => ?_, fun w9 _ x10 hx10 => ?_⟩
      · rcases hr with ⟨z1, -⟩ | ⟨-, z1⟩
        · omega
        have eh : h_1 K L (e_k K L 1 σ) = e_k K L 1 σ := by
          unfold h_1
          rw [if_neg (by rw [z1]; decide)]
        have ef : h_f K L (e_k K L 1 σ) = [] := by
          unfold h_f
          rw [if_neg (by rw [z1]; decide)]
        refine tail s8 T6 (by rw [eh]; exact Q6) F6 (by rw [e6, e42]; exact hb1.symm) (fun _ => ⟨?_, by rw [r6, if_pos ⟨rfl, rfl⟩]; rfl⟩)
        rw [ef]
        exact ⟨(b244 0).1, by rw [r6, if_neg (by omega), if_pos ⟨rfl, rfl⟩]; rfl, by decide, YA_nil⟩
      · rcases hr with ⟨-, z1⟩ | ⟨z1, -⟩
        · have eh : h_1 K L (e_k K L 1 σ) = p_nm K L 93 (a_d (e_k K L 1 σ)) := by
            unfold h_1
            rw [if_pos z1]
          have ef : h_f K L (e_k K L 1 σ) = l_nm K L (a_d (e_k K L 1 σ)) := by
            unfold h_f
            rw [if_pos z1]
          refine Par.imp (x_181 hP T6 Q6 z1 (Or.inr ⟨rfl, rfl⟩) (a3 := x10) (by omega)) ?_
          rintro v12 s12 ⟨x13, rfl, m1, m2, m3, m4, m5⟩
          rw [e6, e26] at m3 m5
          refine ⟨x13, rfl, fun _ s14 hs14 => ?_⟩
          have e14 : s14.1 = s12.1 := by rw [hs14]; rfl
          have r14 : ∀ q j, s14.2.1 q j = if q = 245 ∧ j = k.toNat then x13 else s12.2.1 q j := fun q j => by rw [hs14, sa_21]
          have G12 : GFx (s.1 26).toInt (W183 k) s s12 := GFx_tr (Int.le_refl _) F6 (GFx_mo (W181_183 hx10) m3)
          have G14 : GFx (s12.1 26).toInt (fun p i => p = 245 ∧ (i : Int) = k) s12 s14 := by
            rw [hs14]
            exact GFx_sa ⟨rfl, by omega⟩ (Int.le_refl _)
          have no14 : ∀ p i : Nat, (p = 245 ∧ (i : Int) = k) → noR p := fun p i w => by
            unfold noR nRe nRw
            omega
          have in14 : ∀ p i : Nat, (p = 245 ∧ (i : Int) = k) → W183 k p i := fun p i w => by
            unfold W183
            omega
          have hN := G12.2.2.2
          refine tail s14 (GFx_tk no14 G14 m1) (by rw [eh]; exact RQr_1 (by rw [e14]) (by rw [e14]) m2) (GFx_tr hN G12 (GFx_mo in14 G14)) (by rw [e14, m4, e6, e42]; exact hb1.symm) (fun hf => ?_)
          rw [eh] at hf
          obtain ⟨j1, j2, j3⟩ := m5 hf
          rw [ef]
          have rk : ∀ q : Nat, (q = 244 ∨ q = 248) → ∀ j, s14.2.1 q j = s8.2.1 q j := fun q hq j => by
            rw [r14, if_neg (by omega)]
            exact m3.2.2.1 q j (by omega) (Or.inl (by unfold nRe nRw; omega)) (fun w => by unfold W181 at w; omega)
          refine ⟨⟨by rw [rk 244 (Or.inl rfl)]; exact (b244 0).1, by rw [r14, if_pos ⟨rfl, rfl⟩]; exact j1, j2, ?_⟩, by rw [rk 248 (Or.inr rfl), r6, if_pos ⟨rfl, rfl⟩]; rfl⟩
          rw [← hx10, e14]
          exact YA_fr no14 G14 (Int.le_refl _) (noR_d (p := 246) (by omega)) (noR_d (p := 247) (by omega)) (fun i _ => ⟨by omega, by omega⟩) j3
        · omega
    · have hf : ¬ σ.1 = 0 := by
        have := h.1
        omega
      have e : p_hd K L (e_k K L 1 σ) = σ := by rw [ek_f hf, hd_f hf]
      refine ⟨rfl, hT, by rw [e]; exact h, GFx_rf (Int.le_refl _), fun w2 => ?_⟩
      rw [e] at w2
      exact absurd w2 hf
end RHW
